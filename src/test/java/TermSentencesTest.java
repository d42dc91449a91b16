import java.util.ArrayList;
import java.util.Collections;
import java.util.List;

/** Each sentence of the document ahead of its promises, with what must fail if it is broken. */
public final class TermSentencesTest {
    private static final Sentences doc = new Sentences();

    // 64 BARE noughts are 896 bits, so 512 calls can fill THE TAPE.
    private static final String NOUGHTS_999 = "rule(1, 1) rule(2, 1) " + Edges.times(64, "add(0)") + "tape() = 896 "
        + Edges.times(103, "push(0)");

    public static void main(String[] args) {
        whatItIs();
        refusals();
        rulesAndRow();
        blocksAndSegments();
        toldAhead();
        folds();
        written();
        codes();
        choice();
        tape();
        faults();
        faultPlaces();
        face();
        doc.end("What it is", "Terms");
    }

    private static void whatItIs() {
        doc.section("What it is");
        doc.sentence("Rows of a sensor packed without loss.");
        doc.broken(new Reference() {
            @Override
            int add(int v) {
                return super.add(v > 0 && v <= top() ? v & ~1 : v);
            }
        }, Edges.adds(100, 101, 103, 7, 255, 0), "tape() clear() read(6) = 6", Edges.dueRow(100, 101, 103, 7, 255, 0));
        doc.sentence("An object is used for at most 512 calls after it has been made; what later calls answer is free.");
        doc.broken(new Reference() {
            private int calls;

            @Override
            int add(int v) {
                calls++;
                return calls >= 512 ? 0 : super.add(v);
            }
        }, Edges.times(511, "add(1)"), "add(2) = FULL");
    }

    private static void refusals() {
        doc.section("Terms");
        doc.noAnswer("Samples are told ahead from those before them, in one of several ways; what they are off is folded"
            + " into numbers not below 0, and these are written as rows of noughts, a one, and rests of so many bits, or"
            + " plainly, or not at all if they are nothing; for each block the way that takes fewest bits is chosen; now and"
            + " then a sample stands bare, so that one can begin anew there. A tape of bits is read back, or it is told where"
            + " it cannot be; bits are turned about, the tape is cut; it is told what is gone if a block is lost.");
        doc.sentence("Calls that are refused answer the first that fits, in the order in which they are told with the call:"
            + " OUTSIDE -2 (a number is not as told), STATE -3, FULL -4, FAULT -7 (as told with the call).");
        doc.broken(new Reference() {
            @Override
            int add(int v) {
                return row.size() == 64 ? FULL : super.add(v);
            }
        }, Edges.times(64, "add(1)"), "add(256) = OUTSIDE add(-1) = OUTSIDE add(1) = FULL");
        doc.broken(new Reference() {
            @Override
            int rule(int what, int n) {
                return what == 0 && n < 8 && !row.isEmpty() ? STATE : super.rule(what, n);
            }
        }, "add(255) rule(0, 1) = OUTSIDE rule(0, 2) = STATE");
        doc.broken(new Reference() {
            @Override
            int push(int bit) {
                return tape.length() == 1000 ? FULL : super.push(bit);
            }
        }, NOUGHTS_999, "push(1) = 1000 push(2) = OUTSIDE push(-1) = OUTSIDE push(1) = FULL");
        doc.broken(new Reference() {
            @Override
            int restore(int k) {
                return images[0] == null && images[1] == null ? STATE : super.restore(k);
            }
        }, "restore(2) = OUTSIDE restore(0) = STATE");
        doc.broken(new Reference() {
            @Override
            int read(int n) {
                return tape.isEmpty() && n != 0 ? FAULT : super.read(n);
            }
        }, "read(65) = OUTSIDE read(-1) = OUTSIDE read(1) = FAULT");
        noneAndChanges();
    }

    private static void noneAndChanges() {
        doc.sentence("NONE -6 is answered only where no refusal fits.");
        doc.broken(new Reference() {
            @Override
            int ahead(int i, int way, int what) {
                return i < 0 || i >= row.size() || bare(i) ? NONE : super.ahead(i, way, what);
            }
        }, "ahead(0, 4, 0) = OUTSIDE add(5) ahead(0, 0, 2) = OUTSIDE ahead(-1, -1, 0) = OUTSIDE ahead(0, 0, 0) = NONE");
        doc.broken(new Reference() {
            @Override
            int cost(int b, int way, int code) {
                return b < 0 || b >= blocks() ? NONE : super.cost(b, way, code);
            }
        }, "cost(0, 4, 0) = OUTSIDE cost(0, 0, 9) = OUTSIDE cost(-1, 0, -1) = OUTSIDE cost(0, 0, 0) = NONE");
        doc.broken(new Reference() {
            @Override
            int block(int b, int what) {
                return b < 0 || b >= blocks() ? NONE : super.block(b, what);
            }
        }, "block(0, 6) = OUTSIDE block(-1, -1) = OUTSIDE block(0, 0) = NONE");
        doc.sentence("What is refused changes nothing, but what is told of the FAULT.");
        doc.broken(new Reference() {
            @Override
            int add(int v) {
                int answer = super.add(v);
                if (answer < 0) {
                    clear();
                }
                return answer;
            }
        }, "add(7) add(256) = OUTSIDE", Edges.dueRow(7));
        doc.broken(new Reference() {
            @Override
            int rule(int what, int n) {
                int answer = super.rule(what, n);
                if (answer == STATE) {
                    rules[what] = n;
                }
                return answer;
            }
        }, "add(255) rule(0, 4) = STATE count(5) = 8 add(200) = 2");
        doc.broken(new Reference() {
            @Override
            int read(int n) {
                int answer = super.read(n);
                if (answer == FAULT) {
                    tape = "";
                }
                return answer;
            }
        }, "push(1) read(0) = FAULT", Edges.dueTape("1"));
        doc.broken(new Reference() {
            @Override
            int read(int n) {
                int[] before = fault;
                int answer = super.read(n);
                fault = answer == FAULT ? before : fault;
                return answer;
            }
        }, "push(1) read(0) = FAULT", Edges.dueFault(4, 0, 0));
        doc.sentence("All that is told is as things are when it is asked.");
        doc.broken(new Reference() {
            private String first;

            @Override
            String packedUpTo(int blocks) {
                first = first == null ? super.packedUpTo(blocks) : first;
                return first;
            }
        }, "rule(0, 4) add(5) packed(-1) = 10 add(9) packed(-1) = 13 rule(0, 8) packed(-1) = 19 clear() packed(-1) = 0");
        doc.broken(new PackedEarlier(), Edges.rules(4, 1, 1), Edges.adds(9, 9), "packed(-1) = 20", Edges.bits("00 0000 0001"),
            "read(1) = 1", Edges.duePacked("00 0000 0001"), "block(0, 2) = 10 count(3) = 10 tape() = 10");
        doc.broken(new PackedEarlier(), Edges.rules(4, 1, 1), Edges.adds(9), "image(0) clear()", Edges.adds(1, 2),
            "packed(-1) = 20 restore(0)", Edges.duePacked("00 0000 1001"), "count(3) = 10 tape() = 10");
        doc.broken(new Reference() {
            @Override
            int rule(int what, int n) {
                return what > 0 && !row.isEmpty() && super.rule(what, rules[what]) >= 0 ? rules[what] : super.rule(what, n);
            }
        }, Edges.times(9, "add(3)"), "count(1) = 2 rule(1, 3) count(1) = 3 rule(2, 1) count(2) = 3 lost(0) = 3");
    }

    /** What was PACKED is not told anew for a ROW that was read or restored. */
    private static final class PackedEarlier extends Reference {
        private String earlier;

        @Override
        String packedUpTo(int blocks) {
            earlier = earlier == null ? super.packedUpTo(blocks) : earlier;
            return earlier;
        }

        @Override
        int add(int v) {
            earlier = null;
            return super.add(v);
        }

        @Override
        int clear() {
            earlier = null;
            return super.clear();
        }

        @Override
        int rule(int what, int n) {
            earlier = null;
            return super.rule(what, n);
        }
    }

    private static void rulesAndRow() {
        doc.sentence("======== 1 WIDTH is 2 to 8 (8 at first),");
        doc.broken(first(7, 8, 4), "count(5) = 8 add(255) = 1");
        doc.broken(clamped(0, 3, 8), "rule(0, 2) count(5) = 2 rule(0, 1) = OUTSIDE");
        doc.broken(clamped(0, 2, 7), "rule(0, 2) rule(0, 8) count(5) = 8 rule(0, 9) = OUTSIDE");
        doc.sentence("TOP is 2 to the power of WIDTH, less 1.");
        for (int off : new int[] {-1, 1}) {
            doc.broken(new Reference() {
                @Override
                int top() {
                    return super.top() + off;
                }
            }, "rule(0, 2) add(4) = OUTSIDE add(3) = 1 rule(0, 5) add(32) = OUTSIDE add(31) = 2");
        }
        doc.sentence("THE ROW has up to 64 SAMPLES,");
        doc.broken(new Reference() {
            @Override
            int add(int v) {
                return row.size() == 63 ? FULL : super.add(v);
            }
        }, Edges.times(63, "add(1)"), "add(7) = 64 sample(63) = 7");
        doc.broken(new Reference() {
            @Override
            int add(int v) {
                int answer = super.add(v);
                if (answer == FULL) {
                    row.add(v);
                }
                return answer;
            }
        }, Edges.times(64, "add(1)"), "add(7) = FULL sample(64) = NONE count(0) = 64");
        doc.sentence("each 0 to TOP,");
        doc.broken(new Reference() {
            @Override
            int add(int v) {
                return v == 0 || v == top() ? OUTSIDE : super.add(v);
            }
        }, "add(0) = 1 add(255) = 2", Edges.dueRow(0, 255));
        doc.sentence("numbered from 0 on.");
        doc.broken(new Reference() {
            @Override
            int sample(int i) {
                return i == 0 ? NONE : super.sample(i - 1);
            }
        }, Edges.adds(5, 6), "sample(0) = 5 sample(1) = 6 sample(2) = NONE");
        doc.sentence("SIZE is 1 to 8 (8 at first),");
        doc.broken(first(8, 4, 4), "count(6) = 8", Edges.times(8, "add(3)"), "count(1) = 1");
        doc.broken(clamped(1, 2, 8), "rule(1, 1) count(6) = 1 rule(1, 0) = OUTSIDE");
        doc.broken(clamped(1, 1, 7), "rule(1, 1) rule(1, 8) count(6) = 8 rule(1, 9) = OUTSIDE");
        doc.sentence("EVERY 1 to 8 (4 at first).");
        doc.broken(first(8, 8, 8), "count(7) = 4", Edges.times(33, "add(3)"), "count(2) = 2");
        doc.broken(clamped(2, 2, 8), "rule(2, 1) count(7) = 1 rule(2, 0) = OUTSIDE");
        doc.broken(clamped(2, 1, 7), "rule(2, 1) rule(2, 8) count(7) = 8 rule(2, 9) = OUTSIDE");
    }

    private static Reference first(int width, int size, int every) {
        Reference y = new Reference();
        y.rules = new int[] {width, size, every};
        return y;
    }

    /** A rule that keeps to fewer numbers than it should. */
    private static Reference clamped(int rule, int least, int most) {
        return new Reference() {
            @Override
            int rule(int what, int n) {
                int answer = super.rule(what, n);
                rules[rule] = Math.min(Math.max(rules[rule], least), most);
                return answer;
            }
        };
    }

    private static void blocksAndSegments() {
        doc.sentence("BLOCKS, numbered from 0 on:");
        doc.broken(new Reference() {
            @Override
            int block(int b, int what) {
                return b == 0 ? NONE : super.block(b - 1, what);
            }
        }, Edges.times(9, "add(3)"), "block(0, 3) = 8 block(1, 3) = 1 block(2, 3) = NONE");
        doc.sentence("SIZE SAMPLES each, one behind the other;");
        doc.broken(new Reference() {
            @Override
            List<Integer> samplesOf(int b) {
                List<Integer> numbers = new ArrayList<>();
                for (int i = b; i < row.size(); i += blocks()) {
                    numbers.add(i);
                }
                return numbers;
            }
        }, Edges.rules(4, 2, 8), Edges.adds(9, 9, 0, 15, 15), "block(0, 3) = 2 block(1, 3) = 2",
            Edges.duePacked("01 0000 1001  00 1000 1111 1110  01 0000"));
        doc.sentence("the last one has what is left (1 at least).");
        doc.broken(new Reference() {
            @Override
            int blocks() {
                return row.size() / rules[1];
            }
        }, Edges.rules(4, 3, 8), Edges.times(4, "add(3)"), "count(1) = 2 block(1, 3) = 1 add(3) block(1, 3) = 2");
        doc.broken(new Reference() {
            @Override
            int blocks() {
                return row.size() / rules[1] + 1;
            }
        }, "count(1) = 0", Edges.rules(4, 3, 8), Edges.times(3, "add(3)"), "count(1) = 1 block(1, 3) = NONE");
        doc.sentence("SEGMENTS: EVERY BLOCKS each, one behind the other;");
        doc.broken(new Reference() {
            @Override
            int segmentOfSample(int i) {
                return i / rules[2];
            }
        }, Edges.rules(4, 2, 3), Edges.times(12, "add(3)"), "count(2) = 2 lost(0) = 6 ahead(3, 1, 0) = 3 ahead(6, 1, 0) = NONE");
        doc.sentence("the last one what is left.");
        doc.broken(new Reference() {
            @Override
            int count(int what) {
                return what == 2 ? row.size() / (rules[1] * rules[2]) : super.count(what);
            }
        }, Edges.rules(4, 2, 3), Edges.times(7, "add(3)"), "count(2) = 2 block(3, 5) = 1 lost(3) = 1");
        doc.sentence("The first SAMPLE of a SEGMENT is BARE.");
        doc.broken(new Reference() {
            @Override
            boolean bare(int i) {
                return i == 0;
            }
        }, Edges.rules(4, 2, 2), Edges.times(5, "add(3)"), "ahead(0, 1, 0) = NONE ahead(4, 1, 0) = NONE block(2, 2) = 10");
        doc.broken(new Reference() {
            @Override
            boolean bare(int i) {
                return i % rules[1] == 0;
            }
        }, Edges.rules(4, 2, 2), Edges.times(5, "add(3)"), "ahead(2, 1, 0) = 3 block(1, 2) = 6");
    }

    /** What is TOLD AHEAD by one WAY is something else. */
    private abstract static class Told extends Reference {
        private final int way;

        Told(int way) {
            this.way = way;
        }

        @Override
        int told(List<Integer> samples, int i, int asked) {
            if (asked != way) {
                return super.told(samples, i, asked);
            }
            int a = samples.get(i - 1);
            return tell(a, i >= 2 && !bare(i - 1) ? samples.get(i - 2) : a);
        }

        abstract int tell(int a, int b);
    }

    private static void toldAhead() {
        String rising = Edges.rules(8, 3, 1) + Edges.adds(10, 20, 31, 40, 50, 60);
        doc.sentence("What is TOLD AHEAD of a SAMPLE that is not BARE, a being the SAMPLE right before it,");
        doc.broken(new Reference() {
            @Override
            int told(List<Integer> samples, int i, int way) {
                return way == 1 ? samples.get(Math.max(0, i - 2)) : super.told(samples, i, way);
            }
        }, rising, "ahead(1, 1, 0) = 10 ahead(2, 1, 0) = 20 ahead(5, 1, 0) = 50");
        doc.sentence("b the one before a,");
        doc.broken(new Reference() {
            @Override
            int told(List<Integer> samples, int i, int way) {
                return way == 2 || way == 3 ? super.told(samples, i, 1) : super.told(samples, i, way);
            }
        }, rising, "ahead(2, 2, 0) = 30 ahead(2, 3, 0) = 15");
        doc.sentence("or a once more, if that one is of another SEGMENT (or there is none):");
        doc.broken(new Reference() {
            @Override
            int told(List<Integer> samples, int i, int way) {
                boolean other = i >= 2 && bare(i - 1);
                return way == 2 && other ? 2 * samples.get(i - 1) - samples.get(i - 2) : super.told(samples, i, way);
            }
        }, rising, "ahead(4, 2, 0) = 40 ahead(4, 3, 0) = 40");
        doc.broken(new Reference() {
            @Override
            int told(List<Integer> samples, int i, int way) {
                return way == 3 && i == 1 ? samples.get(0) / 2 : super.told(samples, i, way);
            }
        }, rising, "ahead(1, 2, 0) = 10 ahead(1, 3, 0) = 10");
        doc.sentence("by WAY 0: TOP and 1, by 2;");
        doc.broken(new Told(0) {
            @Override
            int tell(int a, int b) {
                return top() / 2;
            }
        }, rising, "ahead(1, 0, 0) = 128 ahead(1, 0, 1) = 215");
        doc.sentence("by WAY 1: a;");
        doc.broken(new Told(1) {
            @Override
            int tell(int a, int b) {
                return b;
            }
        }, rising, "ahead(2, 1, 0) = 20 ahead(2, 1, 1) = 22");
        clippedWays(rising);
    }

    private static void clippedWays(String rising) {
        doc.sentence("by WAY 2: 2 a less b,");
        doc.broken(new Told(2) {
            @Override
            int tell(int a, int b) {
                return Math.max(0, Math.min(top(), 2 * b - a));
            }
        }, rising, "ahead(2, 2, 0) = 30 ahead(5, 2, 0) = 60");
        doc.sentence("but 0, if that is below 0,");
        doc.broken(new Told(2) {
            @Override
            int tell(int a, int b) {
                return Math.min(top(), Math.abs(2 * a - b));
            }
        }, Edges.adds(20, 9, 5), "ahead(2, 2, 0) = 0 ahead(2, 2, 1) = 5");
        doc.sentence("TOP, if it is above TOP;");
        doc.broken(new Told(2) {
            @Override
            int tell(int a, int b) {
                return Math.max(0, 2 * a - b) % (top() + 1);
            }
        }, Edges.adds(100, 200, 250), "ahead(2, 2, 0) = 255 ahead(2, 2, 1) = 5");
        doc.sentence("by WAY 3: a and b, added, by 2, cut.");
        doc.broken(new Told(3) {
            @Override
            int tell(int a, int b) {
                return (a + b + 1) / 2;
            }
        }, Edges.adds(10, 21, 15), "ahead(2, 3, 0) = 15 ahead(2, 3, 1) = 0");
    }

    private static void folds() {
        doc.sentence("FOLD of a SAMPLE v of which e is TOLD AHEAD: t being the lesser one of e and TOP less e:");
        doc.broken(new Reference() {
            @Override
            int fold(int v, int e) {
                return v >= e ? 2 * (v - e) : 2 * (e - v) - 1;
            }
        }, "rule(0, 4)", Edges.adds(10, 4), "ahead(1, 1, 1) = 11 clear()", Edges.adds(5, 11), "ahead(1, 1, 1) = 11");
        doc.broken(new Reference() {
            @Override
            int fold(int v, int e) {
                return v > 2 * e ? v : super.fold(v, Math.min(e, top() / 2));
            }
        }, "rule(0, 4)", Edges.adds(10, 4), "ahead(1, 1, 1) = 11");
        doc.sentence("if v is e to e and t, added: 2 (v - e);");
        doc.broken(new Reference() {
            @Override
            int fold(int v, int e) {
                return v > e && super.fold(v, e) == 2 * (v - e) ? 2 * (v - e) - 1 : super.fold(v, e);
            }
        }, "rule(0, 4)", Edges.adds(5, 5, 6), "ahead(1, 1, 1) = 0 ahead(2, 1, 1) = 2 clear()", Edges.adds(5, 10),
            "ahead(1, 1, 1) = 10");
        doc.sentence("if v is e less t to e less 1: 2 (e - v) - 1;");
        doc.broken(new Reference() {
            @Override
            int fold(int v, int e) {
                return v < e && super.fold(v, e) == 2 * (e - v) - 1 ? 2 * (e - v) : super.fold(v, e);
            }
        }, "rule(0, 4)", Edges.adds(5, 4), "ahead(1, 1, 1) = 1");
        doc.broken(new Reference() {
            @Override
            int fold(int v, int e) {
                return v == 0 && e <= top() - e ? 2 * e : super.fold(v, e);
            }
        }, "rule(0, 4)", Edges.adds(5, 0), "ahead(1, 1, 1) = 9");
        doc.sentence("else t and how far v is from e, added.");
        doc.broken(new Reference() {
            @Override
            int fold(int v, int e) {
                return v > 2 * e ? v - e : super.fold(v, e);
            }
        }, "rule(0, 4)", Edges.adds(5, 15), "ahead(1, 1, 1) = 15 clear()", Edges.adds(5, 11), "ahead(1, 1, 1) = 11");
        doc.broken(new Reference() {
            @Override
            int fold(int v, int e) {
                return top() - v > 2 * (top() - e) ? e - v : super.fold(v, e);
            }
        }, "rule(0, 4)", Edges.adds(10, 0), "ahead(1, 1, 1) = 15 clear()", Edges.adds(10, 4), "ahead(1, 1, 1) = 11");
    }

    /** What BLOCKS are written as is something else. */
    private abstract static class Written extends Reference {
        @Override
        String written(int b, int way, int code) {
            String text = super.written(b, way, code);
            return text == null ? null : instead(text, b, code);
        }

        abstract String instead(String text, int b, int code);
    }

    private static void written() {
        String plain = Edges.rules(4, 3, 2) + Edges.adds(0, 15, 0, 15);
        String duePlain = Edges.duePacked("00 1000 0000 1110 1111  00 1000 1110");
        doc.sentence("======== 2 A BLOCK written by a WAY (0 to 3) and a CODE:");
        doc.broken(new Reference() {
            @Override
            String written(int b, int way, int code) {
                return way == 3 ? null : super.written(b, way, code);
            }
        }, "rule(0, 6)", Edges.adds(20, 23, 18, 24), "cost(0, 3, 3) = 25 block(0, 0) = 3");
        doc.sentence("two bits, the WAY, four bits, the CODE;");
        doc.broken(new Written() {
            @Override
            String instead(String text, int b, int code) {
                return text.substring(2, 6) + text.substring(0, 2) + text.substring(6);
            }
        }, plain, duePlain);
        doc.broken(new Written() {
            @Override
            String instead(String text, int b, int code) {
                return text.substring(0, 2) + text.substring(3);
            }
        }, "rule(0, 4)", Edges.adds(5, 5), Edges.duePacked("01 0000 0101"));
        doc.sentence("then, if its first SAMPLE is BARE, that as WIDTH bits;");
        doc.broken(new Written() {
            @Override
            String instead(String text, int b, int code) {
                return text.substring(0, 6) + "0".repeat(8 - rules[0]) + text.substring(6);
            }
        }, plain, duePlain);
        doc.broken(new Written() {
            @Override
            String instead(String text, int b, int code) {
                return b == 0 ? text.substring(0, 6) + text.substring(10) : text;
            }
        }, plain, duePlain);
        doc.sentence("then the FOLDS of its other SAMPLES, in order:");
        doc.broken(new Written() {
            @Override
            String instead(String text, int b, int code) {
                return b > 0 || code != 8 ? text : text.substring(0, 10) + text.substring(14) + text.substring(10, 14);
            }
        }, plain, duePlain);
        doc.sentence("by CODE 0: nothing (only if all are 0, or there are none);");
        doc.broken(new Written() {
            @Override
            String instead(String text, int b, int code) {
                return code == 0 ? text + "0" : text;
            }
        }, "rule(0, 4)", Edges.adds(5, 5), Edges.duePacked("01 0000 0101"));
        doc.broken(new Reference() {
            @Override
            String written(int b, int way, int code) {
                String text = super.written(b, way, code);
                return text == null && code == 0 ? super.written(b, way, 8).substring(0, 6) : text;
            }
        }, Edges.rules(4, 4, 2), Edges.adds(5, 5, 5, 4), "cost(0, 1, 0) = NONE clear()", Edges.adds(5, 4),
            "cost(0, 1, 0) = NONE");
        doc.broken(new Written() {
            @Override
            String instead(String text, int b, int code) {
                return code == 0 && row.size() == 1 ? null : text;
            }
        }, "rule(0, 4) add(5) cost(0, 0, 0) = 10 block(0, 1) = 0");
    }

    private static void codes() {
        doc.sentence("by CODE 1 to 7, k being CODE less 1 (only if k is less than WIDTH):");
        doc.broken(new Written() {
            @Override
            String instead(String text, int b, int code) {
                return code == rules[0] && code < 8 ? null : text;
            }
        }, "rule(0, 4)", Edges.adds(0, 12), "cost(0, 1, 4) = 15 cost(0, 1, 5) = NONE rule(0, 7) cost(0, 1, 7) = 20");
        doc.broken(new Reference() {
            @Override
            String written(int b, int way, int code) {
                return code == rules[0] + 1 && code < 8 ? super.written(b, way, 8) : super.written(b, way, code);
            }
        }, "rule(0, 2) add(1) cost(0, 0, 2) = 8 cost(0, 0, 3) = NONE rule(0, 6) cost(0, 0, 7) = NONE");
        doc.sentence("each as so many bits 0 as FOLD by 2 to the power of k, cut, is, a bit 1, and the lowest k bits of it;");
        String rests = "rule(0, 6)" + Edges.adds(20, 23, 18, 24);
        String dueRests = Edges.duePacked("11 0011 010100  01 10  01 01  001 00");
        doc.broken(new Written() {
            @Override
            String instead(String text, int b, int code) {
                return code == 3 ? text.substring(0, 12) + flipped(text.substring(12)) : text;
            }
        }, rests, dueRests);
        doc.broken(new Written() {
            @Override
            String instead(String text, int b, int code) {
                return code == 3 ? text.substring(0, text.length() - 2) + "11" : text;
            }
        }, rests, dueRests);
        doc.broken(new Written() {
            @Override
            String instead(String text, int b, int code) {
                return code == 1 ? text + "1" : text;
            }
        }, "rule(0, 4)", Edges.adds(1, 3, 5, 7), Edges.duePacked("10 0001 0001  0001 1 1"));
        doc.sentence("by CODE 8: each as WIDTH bits.");
        doc.broken(new Written() {
            @Override
            String instead(String text, int b, int code) {
                return code == 8 && row.size() > 1 ? text + "0" : text;
            }
        }, "rule(0, 4)", Edges.adds(0, 12), "cost(0, 0, 8) = 14", Edges.duePacked("00 1000 0000 1000"));
        doc.sentence("(Numbers are written with the highest bit first.)");
        doc.broken(new Reference() {
            @Override
            String number(int n, int width) {
                return new StringBuilder(super.number(n, width)).reverse().toString();
            }
        }, "rule(0, 4) add(1)", Edges.duePacked("00 0000 0001"));
        doc.sentence("COST: how many bits.");
        doc.broken(new Reference() {
            @Override
            int cost(int b, int way, int code) {
                int answer = super.cost(b, way, code);
                return answer < 0 ? answer : answer - 6;
            }
        }, "rule(0, 4)", Edges.adds(5, 5), "cost(0, 1, 0) = 10 cost(0, 1, 8) = 14");
        doc.broken(new Reference() {
            @Override
            int cost(int b, int way, int code) {
                int answer = super.cost(b, way, code);
                return answer > 0 && !bare(b * rules[1]) ? answer + rules[0] : answer;
            }
        }, Edges.rules(4, 2, 2), Edges.adds(5, 5, 5, 6), "cost(1, 1, 8) = 14 cost(1, 1, 1) = 10 cost(1, 1, 3) = 12");
    }

    private static String flipped(String bits) {
        return bits.replace('0', '2').replace('1', '0').replace('2', '1');
    }

    private static void choice() {
        String two = Edges.rules(4, 2, 1);
        doc.sentence("THE CHOICE of a BLOCK: the WAY and the CODE of the least COST;");
        doc.broken(new Reference() {
            @Override
            int[] choice(int b) {
                return new int[] {1, 8};
            }
        }, two, Edges.adds(4, 5), "block(0, 0) = 1 block(0, 1) = 1 block(0, 2) = 13");
        doc.broken(new Reference() {
            @Override
            int[] choice(int b) {
                int code = super.choice(b)[1];
                return written(b, 0, code) == null ? super.choice(b) : new int[] {0, code};
            }
        }, two, Edges.adds(4, 5), "block(0, 0) = 1 block(0, 1) = 1 block(0, 2) = 13");
        doc.sentence("of such the least WAY,");
        doc.broken(new Reference() {
            @Override
            int[] choice(int b) {
                int[] best = super.choice(b);
                int least = written(b, best[0], best[1]).length();
                for (int way = 3; way > best[0]; way--) {
                    String text = written(b, way, best[1]);
                    if (text != null && text.length() == least) {
                        return new int[] {way, best[1]};
                    }
                }
                return best;
            }
        }, two, Edges.adds(8, 8), "block(0, 0) = 0 clear()", Edges.adds(5, 5), "block(0, 0) = 1");
        doc.sentence("of such the least CODE.");
        doc.broken(new Reference() {
            @Override
            int[] choice(int b) {
                int[] best = super.choice(b);
                int least = written(b, best[0], best[1]).length();
                for (int code = 8; code > best[1]; code--) {
                    String text = written(b, best[0], code);
                    if (text != null && text.length() == least) {
                        return new int[] {best[0], code};
                    }
                }
                return best;
            }
        }, two, Edges.adds(0, 9), "block(0, 0) = 0 block(0, 1) = 1");
        doc.broken(new CodeAheadOfWay(), two, Edges.adds(5, 6), "cost(0, 0, 2) = 13 cost(0, 1, 1) = 13",
            "block(0, 0) = 0 block(0, 1) = 2");
        packed();
    }

    /** Of equal COSTS the least CODE, of such the least WAY. */
    private static final class CodeAheadOfWay extends Reference {
        @Override
        int[] choice(int b) {
            int[] best = super.choice(b);
            int least = written(b, best[0], best[1]).length();
            for (int code = 0; code < best[1]; code++) {
                for (int way = 0; way <= 3; way++) {
                    String text = written(b, way, code);
                    if (text != null && text.length() == least) {
                        return new int[] {way, code};
                    }
                }
            }
            return best;
        }
    }

    private static void packed() {
        String some = Edges.rules(4, 2, 1) + Edges.adds(8, 8, 5, 5, 0);
        String due = Edges.duePacked("00 0000 1000  01 0000 0101  00 0000 0000");
        doc.sentence("PACKED: all BLOCKS written by THE CHOICE, one behind the other.");
        doc.broken(new Reference() {
            @Override
            String packedUpTo(int blocks) {
                return super.packedUpTo(Math.max(0, blocks - 1));
            }
        }, some, due);
        doc.broken(new Reference() {
            @Override
            String packedUpTo(int blocks) {
                StringBuilder text = new StringBuilder();
                for (int b = 0; b < blocks; b++) {
                    text.append(written(b, 1, 8));
                }
                return text.toString();
            }
        }, some, due);
        doc.broken(new Reference() {
            @Override
            String packedUpTo(int blocks) {
                List<String> texts = new ArrayList<>();
                for (int b = 0; b < blocks; b++) {
                    texts.add(super.packedUpTo(b + 1).substring(super.packedUpTo(b).length()));
                }
                Collections.reverse(texts);
                return String.join("", texts);
            }
        }, some, due);
    }

    private static void tape() {
        doc.sentence("======== 3 THE TAPE has up to 1000 bits,");
        doc.broken(new Reference() {
            @Override
            int push(int bit) {
                return tape.length() == 999 ? FULL : super.push(bit);
            }
        }, NOUGHTS_999, "push(1) = 1000 bit(999) = 1 push(1) = FULL");
        doc.broken(new Reference() {
            @Override
            int push(int bit) {
                int answer = super.push(bit);
                tape += answer == FULL ? bit : "";
                return answer;
            }
        }, NOUGHTS_999, "push(1) = 1000 push(1) = FULL bit(1000) = NONE bit(-1) = 1000");
        doc.sentence("numbered from 0 on");
        doc.broken(new Reference() {
            @Override
            int bit(int i) {
                return i == 0 ? NONE : super.bit(i < 0 ? i : i - 1);
            }
        }, Edges.bits("10"), "bit(0) = 1 bit(1) = 0 bit(2) = NONE");
        doc.sentence("(none at first).");
        doc.broken(new Reference() {
            { tape = "0"; }
        }, "bit(-1) = 0 bit(0) = NONE flip(0) = OUTSIDE");
        doc.sentence("It is read as n SAMPLES, by WIDTH, SIZE, EVERY as they are:");
        int[] atFirst = {8, 8, 4};
        for (int part = 0; part < 3; part++) {
            int rule = part;
            doc.broken(new Reference() {
                @Override
                int read(int n) {
                    int now = rules[rule];
                    rules[rule] = atFirst[rule];
                    int answer = super.read(n);
                    rules[rule] = now;
                    return answer;
                }
            }, Edges.rules(4, 2, 1), Edges.bits("01 0000 0101  01 0000 1001"), "read(4) = 4", Edges.dueRow(5, 5, 9, 9));
        }
        doc.broken(new Reference() {
            @Override
            int read(int n) {
                return n > 1 && n <= 64 ? super.read(n - 1) + 1 : super.read(n);
            }
        }, "rule(0, 4)", Edges.bits("01 0000 0101"), "read(2) = 2", Edges.dueRow(5, 5));
        doc.sentence("BLOCKS of them one behind the other, as they are written.");
        doc.broken(new Reference() {
            @Override
            int unfold(int f, int e) {
                return (e + f) % (top() + 1);
            }
        }, "rule(0, 4)", Edges.bits("01 1000 0101 0010 0001"), "read(3) = 3", Edges.dueRow(5, 6, 5));
        doc.broken(new Reference() {
            @Override
            int read(int n) {
                int answer = super.read(n);
                if (answer > 0) {
                    Collections.reverse(row);
                }
                return answer;
            }
        }, Edges.rules(4, 1, 1), Edges.bits("00 0000 0101  00 0000 1001"), "read(2) = 2", Edges.dueRow(5, 9));
        readBack();
    }

    /** FOLDS on both sides of what is told, near and far, come back; by every CODE. */
    private static void readBack() {
        doc.broken(new Reference() {
            @Override
            int unfold(int f, int e) {
                // Only what is near is undone.
                return f % 2 == 0 ? Math.min(top(), e + f / 2) : Math.max(0, e - (f + 1) / 2);
            }
        }, "rule(0, 4)", Edges.bits("01 1000 0101 1111 1011 0110 0101 1010"), "read(6) = 6", Edges.dueRow(5, 15, 4, 7, 4, 10));
        // 11 is 94, told 100; 6 is 97, told 94; 200 is 200, told 97.
        for (int code = 1; code <= 7; code++) {
            int unread = code;
            String folds = foldBy(code, 11) + foldBy(code, 6) + foldBy(code, 200);
            doc.broken(new Reference() {
                @Override
                boolean isFaulty(int asked) {
                    return asked == unread || super.isFaulty(asked);
                }
            }, Edges.bits("01" + binary(code, 4) + binary(100, 8) + folds), "read(4) = 4", Edges.dueRow(100, 94, 97, 200));
        }
    }

    private static String foldBy(int code, int fold) {
        int k = code - 1;
        return "0".repeat(fold >> k) + "1" + binary(fold & (1 << k) - 1, k);
    }

    private static String binary(int n, int width) {
        return width == 0 ? "" : Integer.toBinaryString(1 << width | n).substring(1);
    }

    /** The FAULT that is told is another one, or none. */
    private abstract static class Faulty extends Reference {
        @Override
        int[] firstFault(int n, List<Integer> got) {
            int[] first = super.firstFault(n, got);
            return first[0] == 0 ? first : instead(first, n, got);
        }

        abstract int[] instead(int[] first, int n, List<Integer> got);

        /** As it would be told if so many noughts stood behind THE TAPE. */
        int[] withNoughts(int many, int n, List<Integer> got) {
            String before = tape;
            tape += "0".repeat(many);
            got.clear();
            int[] first = super.firstFault(n, got);
            tape = before;
            return first;
        }
    }

    private static void faults() {
        String small = Edges.rules(2, 2, 2);
        doc.sentence("Its FAULT: SAMPLES, heads of BLOCKS are read in order; the first at which any of these is so,");
        doc.broken(new Faulty() {
            @Override
            int[] instead(int[] first, int n, List<Integer> got) {
                // The whole length is looked at first.
                int least = (n + 1) / 2 * 6 + (n + 3) / 4 * 2;
                return tape.length() < least ? new int[] {1, tape.length(), got.size()} : first;
            }
        }, small, Edges.bits("01 0000 10  01 1001"), "read(5) = FAULT", Edges.dueFault(2, 8, 2));
        doc.broken(new Faulty() {
            @Override
            int[] instead(int[] first, int n, List<Integer> got) {
                // Heads are looked at first.
                return tape.endsWith("1111") ? new int[] {2, tape.length() - 6, 2} : first;
            }
        }, small, Edges.bits("01 0001 10 0000  00 1111"), "read(3) = FAULT", Edges.dueFault(3, 8, 1));
        doc.sentence("the least number of such:");
        doc.broken(new Faulty() {
            @Override
            int[] instead(int[] first, int n, List<Integer> got) {
                int[] other = withNoughts(1, n, got);
                return first[0] == 1 && other[0] == 2 ? other : first;
            }
        }, small, Edges.bits("00 111"), "read(1) = FAULT", Edges.dueFault(1, 5, 0));
        doc.sentence("1 a bit that is wanted is not there;");
        doc.broken(new Faulty() {
            @Override
            int[] instead(int[] first, int n, List<Integer> got) {
                return first[0] == 1 ? withNoughts(1, n, got) : first;
            }
        }, small, Edges.bits("01 0000 1"), "read(1) = FAULT", Edges.dueFault(1, 7, 0));
        doc.sentence("2 the CODE is above 8, or it is 1 to 7 and CODE less 1 is WIDTH or more;");
        doc.broken(misjudged(9), "rule(0, 8)", Edges.bits("00 1001 00000000"), "read(1) = FAULT", Edges.dueFault(2, 0, 0));
        doc.broken(misjudged(8), "rule(0, 8)", Edges.bits("00 1000 00000000"), "read(1) = 1", Edges.dueNoFault());
        doc.broken(misjudged(3), "rule(0, 2)", Edges.bits("00 0011 00"), "read(1) = FAULT", Edges.dueFault(2, 0, 0));
        doc.broken(misjudged(2), "rule(0, 2)", Edges.bits("00 0010 00"), "read(1) = 1", Edges.dueNoFault());
        doc.sentence("3 a FOLD is above TOP (told as soon as it is read);");
        doc.broken(new Faulty() {
            @Override
            int[] instead(int[] first, int n, List<Integer> got) {
                return first[0] == 3 ? new int[] {1, tape.length(), first[2]} : first;
            }
        }, small, Edges.bits("01 0001 10 0000 1"), "read(2) = FAULT", Edges.dueFault(3, 8, 1));
        doc.broken(new Faulty() {
            @Override
            int[] instead(int[] first, int n, List<Integer> got) {
                // It is told only when its BLOCK has been read.
                return first[0] == 3 ? new int[] {3, first[1], Math.min(n, (first[2] / 2 + 1) * 2)} : first;
            }
        }, small, Edges.bits("01 0001 10 0000 1"), "read(2) = FAULT", Edges.dueFault(3, 8, 1));
        doc.sentence("behind all of them: 4 a bit is left.");
        doc.broken(new Faulty() {
            @Override
            int[] instead(int[] first, int n, List<Integer> got) {
                return first[0] == 4 ? new int[] {0, NONE, NONE} : first;
            }
        }, small, Edges.bits("01 0000 10 0"), "read(2) = FAULT fault(0) = 4 read(0) = FAULT fault(0) = 4");
    }

    /** One CODE is FAULT 2 if it should not be, and is none if it should. */
    private static Reference misjudged(int wrong) {
        return new Reference() {
            @Override
            boolean isFaulty(int code) {
                return super.isFaulty(code) != (code == wrong);
            }
        };
    }

    private static void faultPlaces() {
        String small = Edges.rules(2, 2, 2);
        doc.sentence("Its place: of 1 how many bits THE TAPE has;");
        doc.broken(new PlaceOff(1, -1), small, Edges.bits("01 0000 1"), "read(1) = FAULT", Edges.dueFault(1, 7, 0));
        doc.sentence("of 2 the first bit of the BLOCK;");
        doc.broken(new PlaceOff(2, 2), small, Edges.bits("01 0000 10  01 1001"), "read(4) = FAULT", Edges.dueFault(2, 8, 2));
        doc.sentence("of 3 the first bit of that FOLD (in CODES 1 to 7 that of its noughts, or its one);");
        doc.broken(new PlaceOff(3, 3), small, Edges.bits("01 0001 10 0000"), "read(2) = FAULT", Edges.dueFault(3, 8, 1));
        doc.sentence("of 4 the first bit that is left.");
        doc.broken(new PlaceOff(4, 1), small, Edges.bits("01 0000 10 01"), "read(2) = FAULT", Edges.dueFault(4, 8, 2));
        doc.sentence("(In CODES 1 to 7 more noughts than TOP by 2 to the power of k, cut, are FAULT 3 as soon as the first one"
            + " too many is read, whatever follows.)");
        doc.broken(new Faulty() {
            @Override
            int[] instead(int[] first, int n, List<Integer> got) {
                boolean ends = first[0] == 3 && tape.indexOf('1', first[1]) < 0;
                return ends ? new int[] {1, tape.length(), first[2]} : first;
            }
        }, small, Edges.bits("01 0001 10 0000"), "read(2) = FAULT", Edges.dueFault(3, 8, 1), "cut(11) read(2) = FAULT",
            Edges.dueFault(1, 11, 1), "flip(5) flip(4) cut(10) read(2) = FAULT", Edges.dueFault(3, 8, 1));
        doc.broken(new Faulty() {
            @Override
            int[] instead(int[] first, int n, List<Integer> got) {
                int[] other = withNoughts(1, n, got);
                return first[0] == 1 && other[0] == 3 ? other : first;
            }
        }, small, Edges.bits("01 0001 10 000"), "read(2) = FAULT", Edges.dueFault(1, 11, 1), "push(1)", "read(2) = 2");
    }

    /** The place of one FAULT is told elsewhere. */
    private static final class PlaceOff extends Faulty {
        private final int number;
        private final int by;

        PlaceOff(int number, int by) {
            this.number = number;
            this.by = by;
        }

        @Override
        int[] instead(int[] first, int n, List<Integer> got) {
            return first[0] == number ? new int[] {number, first[1] + by, first[2]} : first;
        }
    }

    private static void face() {
        doc.sentence("The constants: `OUTSIDE = -2, STATE = -3, FULL = -4, NONE = -6, FAULT = -7`:"
            + " What refused calls answer; NONE: there is none.");
        doc.broken(new Reference() {
            @Override
            int push(int bit) {
                int answer = super.push(bit);
                return answer == OUTSIDE ? -1 : answer;
            }
        }, "push(2) = -2");
        doc.broken(new Reference() {
            @Override
            int restore(int k) {
                int answer = super.restore(k);
                return answer == STATE ? -1 : answer;
            }
        }, "restore(0) = -3");
        doc.broken(new Reference() {
            @Override
            int add(int v) {
                int answer = super.add(v);
                return answer == FULL ? -1 : answer;
            }
        }, Edges.times(64, "add(0)"), "add(0) = -4");
        doc.broken(new Reference() {
            @Override
            int sample(int i) {
                int answer = super.sample(i);
                return answer == NONE ? -1 : answer;
            }
        }, "sample(0) = -6");
        doc.broken(new Reference() {
            @Override
            int read(int n) {
                int answer = super.read(n);
                return answer == FAULT ? -1 : answer;
            }
        }, "read(1) = -7");
        doc.noAnswer("Ahead of the calls `rule`, `add`, `clear`, `sample`, `ahead` the interface says: ---- 1 the row.");
        doc.noAnswer("Ahead of the calls `cost`, `block`, `packed`, `lost` the interface says: ---- 2 blocks.");
        doc.noAnswer("Ahead of the calls `tape`, `push`, `flip`, `cut`, `bit`, `read`, `fault` the interface says:"
            + " ---- 3 the tape.");
        doc.noAnswer("Ahead of the calls `image`, `restore`, `count` the interface says: ---- 4 images.");
    }
}
