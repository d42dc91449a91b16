import java.util.ArrayList;
import java.util.List;

/** Each sentence of the promises 1 to 20, with what must fail if it is broken. */
public final class PromiseSentencesTest {
    private static final Sentences doc = new Sentences();

    // 64 BARE noughts are 896 bits, so 512 calls can fill THE TAPE.
    private static final String NOUGHTS_896 = "rule(1, 1) rule(2, 1) " + Edges.times(64, "add(0)") + "tape() = 896 clear() = 64 ";
    // Three BLOCKS: 9 9 by WAY 1, CODE 0; 0 15 by WAY 0, CODE 8; 15 BARE, alone, in the second SEGMENT.
    private static final String THREE = Edges.rules(4, 2, 2) + Edges.adds(9, 9, 0, 15, 15);

    public static void main(String[] args) {
        newObject();
        rule();
        add();
        clear();
        sample();
        ahead();
        cost();
        block();
        packed();
        lost();
        tape();
        push();
        flip();
        cut();
        bit();
        read();
        fault();
        faultCounts();
        image();
        restore();
        count();
        doc.end("Promise ");
    }

    private static void newObject() {
        doc.section("Promise 1: A new object");
        doc.sentence("`SensorTapes()`: THE ROW, THE TAPE are empty;");
        doc.broken(new Reference() {
            { row.add(0); }
        }, "count(0) = 0 sample(0) = NONE clear() = 0");
        doc.broken(new Reference() {
            { tape = "0"; }
        }, "count(4) = 0 bit(-1) = 0 bit(0) = NONE");
        doc.sentence("no FAULT was told;");
        doc.broken(new Reference() {
            { fault = new int[] {1, 0, 0}; }
        }, Edges.dueNoFault());
        doc.sentence("no IMAGE is kept.");
        for (int k = 0; k <= 1; k++) {
            Reference kept = new Reference();
            kept.images[k] = new Reference();
            doc.broken(kept, "count(9) = 0 restore(" + k + ") = STATE");
        }
    }

    private static void rule() {
        doc.section("Promise 2: rule");
        doc.sentence("`int rule(int what, int n)`: WIDTH (what = 0: 2 to 8),");
        doc.broken(new RuleOutside(0, 2), "rule(0, 2) = 8 count(5) = 2");
        doc.broken(new RuleOutside(0, 8), "rule(0, 8) = 8 count(5) = 8");
        doc.sentence("SIZE (1: 1 to 8),");
        doc.broken(new RuleOutside(1, 1), "rule(1, 1) = 8 count(6) = 1");
        doc.broken(new RuleOutside(1, 8), "rule(1, 8) = 8 count(6) = 8");
        doc.sentence("EVERY (2: 1 to 8)");
        doc.broken(new RuleOutside(2, 1), "rule(2, 1) = 4 count(7) = 1");
        doc.broken(new RuleOutside(2, 8), "rule(2, 8) = 4 count(7) = 8");
        doc.sentence("is n:");
        doc.broken(new Reference() {
            @Override
            int rule(int what, int n) {
                int[] before = rules.clone();
                int answer = super.rule(what, n);
                rules = before;
                return answer;
            }
        }, "rule(0, 5) = 8 rule(1, 3) = 8 rule(2, 6) = 4 count(5) = 5 count(6) = 3 count(7) = 6");
        doc.sentence("which it was.");
        doc.broken(new Reference() {
            @Override
            int rule(int what, int n) {
                int answer = super.rule(what, n);
                return answer < 0 ? answer : n;
            }
        }, "rule(0, 5) = 8 rule(0, 6) = 5 rule(1, 3) = 8 rule(1, 4) = 3 rule(2, 6) = 4 rule(2, 7) = 6");
        doc.sentence("OUTSIDE: both;");
        doc.broken(new Reference() {
            @Override
            int rule(int what, int n) {
                return super.rule(Math.min(Math.max(what, 0), 2), n);
            }
        }, "rule(-1, 4) = OUTSIDE rule(3, 4) = OUTSIDE rule(LEAST, 4) = OUTSIDE rule(GREATEST, 4) = OUTSIDE");
        doc.broken(new Reference() {
            @Override
            int rule(int what, int n) {
                return super.rule(what, Math.min(Math.max(n, what == 0 ? 2 : 1), 8));
            }
        }, "rule(0, 1) = OUTSIDE rule(0, 9) = OUTSIDE rule(1, 0) = OUTSIDE rule(1, 9) = OUTSIDE rule(2, 0) = OUTSIDE",
            "rule(2, 9) = OUTSIDE rule(0, LEAST) = OUTSIDE rule(1, GREATEST) = OUTSIDE");
        doc.sentence("STATE: a SAMPLE would be above TOP.");
        doc.broken(new Reference() {
            @Override
            int rule(int what, int n) {
                List<Integer> all = row;
                row = new ArrayList<>();
                int answer = super.rule(what, n);
                row = all;
                return answer;
            }
        }, "add(16) add(3) rule(0, 4) = STATE count(5) = 8");
        doc.broken(new Reference() {
            @Override
            int rule(int what, int n) {
                return what == 0 && n < rules[0] && !row.isEmpty() ? STATE : super.rule(what, n);
            }
        }, "add(15) rule(0, 4) = 8 count(5) = 4");
        doc.broken(new Reference() {
            private int most;

            @Override
            int add(int v) {
                most = Math.max(most, v);
                return super.add(v);
            }

            @Override
            int rule(int what, int n) {
                // SAMPLES that were there once count, too.
                return what == 0 && n > 1 && n < 8 && most >= 1 << n ? STATE : super.rule(what, n);
            }
        }, Edges.adds(1, 16), "rule(0, 4) = STATE clear() add(1) rule(0, 4) = 8");
    }

    /** One rule and number that are as told are refused. */
    private static final class RuleOutside extends Reference {
        private final int what;
        private final int n;

        RuleOutside(int what, int n) {
            this.what = what;
            this.n = n;
        }

        @Override
        int rule(int asked, int number) {
            return asked == what && number == n ? OUTSIDE : super.rule(asked, number);
        }
    }

    private static void add() {
        doc.section("Promise 3: add");
        doc.sentence("`int add(int v)`: A SAMPLE more:");
        doc.broken(new Reference() {
            @Override
            int add(int v) {
                int answer = super.add(v);
                row = new ArrayList<>(row.subList(Math.max(0, row.size() - 1), row.size()));
                return answer;
            }
        }, "add(5) add(6)", Edges.dueRow(5, 6));
        doc.broken(new Reference() {
            @Override
            int add(int v) {
                int answer = super.add(v);
                if (answer > 0) {
                    row.add(0, row.remove(answer - 1));
                }
                return answer;
            }
        }, "add(5) add(6)", Edges.dueRow(5, 6));
        doc.sentence("how many there are.");
        doc.broken(new Reference() {
            @Override
            int add(int v) {
                int answer = super.add(v);
                return answer < 0 ? answer : answer - 1;
            }
        }, "add(5) = 1 add(5) = 2");
        doc.sentence("OUTSIDE: it is not 0 to TOP;");
        doc.broken(new Reference() {
            @Override
            int add(int v) {
                return super.add(Math.max(0, v));
            }
        }, "add(-1) = OUTSIDE add(LEAST) = OUTSIDE count(0) = 0");
        doc.broken(new Reference() {
            @Override
            int add(int v) {
                return super.add(Math.min(top(), v));
            }
        }, "rule(0, 4) add(16) = OUTSIDE add(GREATEST) = OUTSIDE add(15) = 1");
        doc.broken(new Reference() {
            @Override
            int add(int v) {
                return v == top() ? OUTSIDE : super.add(v);
            }
        }, "add(255) = 1 rule(0, 8) add(0) = 2");
        doc.sentence("FULL: there are 64.");
        doc.broken(new Reference() {
            @Override
            int add(int v) {
                return row.size() == 63 ? FULL : super.add(v);
            }
        }, Edges.times(63, "add(1)"), "add(1) = 64 add(1) = FULL count(0) = 64");
        doc.broken(new Reference() {
            @Override
            int add(int v) {
                int answer = super.add(v);
                return answer == FULL ? row.size() : answer;
            }
        }, Edges.times(64, "add(1)"), "add(1) = FULL");
    }

    private static void clear() {
        doc.section("Promise 4: clear");
        doc.sentence("`int clear()`: THE ROW is empty:");
        doc.broken(new Reference() {
            @Override
            int clear() {
                return row.size();
            }
        }, "add(7) add(8) clear() = 2 count(0) = 0 sample(0) = NONE");
        doc.sentence("how many SAMPLES it had.");
        doc.broken(new Reference() {
            @Override
            int clear() {
                super.clear();
                return row.size();
            }
        }, "add(7) add(8) clear() = 2 clear() = 0");
    }

    private static void sample() {
        doc.section("Promise 5: sample");
        doc.sentence("`int sample(int i)`: SAMPLE i;");
        doc.broken(new Reference() {
            @Override
            int sample(int i) {
                return super.sample(row.size() - 1 - i);
            }
        }, "add(5) add(6) add(7) sample(0) = 5 sample(1) = 6 sample(2) = 7");
        doc.sentence("NONE: there is none such (i below 0, too).");
        doc.broken(new Reference() {
            @Override
            int sample(int i) {
                return i >= row.size() ? OUTSIDE : super.sample(i);
            }
        }, "sample(0) = NONE add(5) sample(1) = NONE sample(GREATEST) = NONE");
        doc.broken(new Reference() {
            @Override
            int sample(int i) {
                return i < 0 ? OUTSIDE : super.sample(i);
            }
        }, "add(5) sample(-1) = NONE sample(LEAST) = NONE");
    }

    private static void ahead() {
        String some = Edges.rules(4, 3, 1) + Edges.adds(3, 5, 9, 2);
        doc.section("Promise 6: ahead");
        doc.sentence("`int ahead(int i, int way, int what)`: What is TOLD AHEAD of SAMPLE i by a WAY (what = 0),");
        doc.broken(new Reference() {
            @Override
            int ahead(int i, int way, int what) {
                return super.ahead(i, way < 0 || way > 3 ? way : 3 - way, what);
            }
        }, some, "ahead(2, 0, 0) = 8 ahead(2, 1, 0) = 5 ahead(2, 2, 0) = 7 ahead(2, 3, 0) = 4");
        doc.broken(new Reference() {
            @Override
            int ahead(int i, int way, int what) {
                return what == 0 ? super.ahead(i, way, 1) : super.ahead(i, way, what);
            }
        }, some, "ahead(2, 1, 0) = 5 ahead(1, 1, 0) = 3");
        doc.sentence("its FOLD then (1);");
        doc.broken(new Reference() {
            @Override
            int ahead(int i, int way, int what) {
                return what == 1 ? super.ahead(i, way, 0) : super.ahead(i, way, what);
            }
        }, some, "ahead(2, 0, 1) = 2 ahead(2, 1, 1) = 8 ahead(2, 2, 1) = 4 ahead(2, 3, 1) = 9");
        doc.sentence("NONE: there is no such SAMPLE (i below 0, too),");
        doc.broken(new Reference() {
            @Override
            int ahead(int i, int way, int what) {
                int answer = super.ahead(i, way, what);
                return answer == NONE && i >= row.size() ? OUTSIDE : answer;
            }
        }, some, "ahead(4, 1, 0) = NONE ahead(GREATEST, 1, 1) = NONE");
        doc.broken(new Reference() {
            @Override
            int ahead(int i, int way, int what) {
                return i < 0 ? OUTSIDE : super.ahead(i, way, what);
            }
        }, some, "ahead(-1, 0, 0) = NONE ahead(-1, 1, 0) = NONE ahead(-1, 2, 0) = NONE ahead(-1, 3, 1) = NONE",
            "ahead(-1, 0, 1) = NONE ahead(LEAST, 0, 0) = NONE ahead(LEAST, 1, 1) = NONE");
        doc.sentence("or it is BARE.");
        doc.broken(new Reference() {
            @Override
            int ahead(int i, int way, int what) {
                return i == 3 ? told(row, i, way) : super.ahead(i, way, what);
            }
        }, some, "ahead(0, 1, 0) = NONE ahead(3, 1, 0) = NONE ahead(3, 1, 1) = NONE");
        doc.sentence("OUTSIDE: the WAY,");
        doc.broken(new Reference() {
            @Override
            int ahead(int i, int way, int what) {
                return super.ahead(i, Math.min(way, 3), what);
            }
        }, some, "ahead(1, 4, 0) = OUTSIDE ahead(1, GREATEST, 0) = OUTSIDE");
        doc.broken(new Reference() {
            @Override
            int ahead(int i, int way, int what) {
                return super.ahead(i, Math.max(way, 0), what);
            }
        }, some, "ahead(1, -1, 0) = OUTSIDE ahead(1, LEAST, 0) = OUTSIDE");
        doc.sentence("what.");
        doc.broken(new Reference() {
            @Override
            int ahead(int i, int way, int what) {
                return super.ahead(i, way, what == 0 ? 0 : 1);
            }
        }, some, "ahead(1, 1, 2) = OUTSIDE ahead(1, 1, -1) = OUTSIDE");
    }

    private static void cost() {
        String some = Edges.rules(4, 2, 1) + Edges.adds(5, 6, 7);
        doc.section("Promise 7: cost");
        doc.sentence("`int cost(int b, int way, int code)`: The COST of BLOCK b by a WAY and a CODE (0 to 8);");
        doc.broken(new Reference() {
            @Override
            int cost(int b, int way, int code) {
                return b == 0 ? super.cost(1, way, code) : super.cost(b, way, code);
            }
        }, some, "cost(0, 1, 8) = 14 cost(1, 1, 8) = 10");
        doc.broken(new Reference() {
            @Override
            int cost(int b, int way, int code) {
                return way == 0 ? super.cost(b, 1, code) : super.cost(b, way, code);
            }
        }, some, "cost(0, 0, 1) = 14 cost(0, 1, 1) = 13");
        doc.broken(new Reference() {
            @Override
            int cost(int b, int way, int code) {
                return code == 0 || code == 8 ? OUTSIDE : super.cost(b, way, code);
            }
        }, some, "cost(1, 1, 0) = 10 cost(0, 1, 8) = 14");
        doc.sentence("NONE: there is no such BLOCK (b below 0, too),");
        doc.broken(new Reference() {
            @Override
            int cost(int b, int way, int code) {
                int answer = super.cost(b, way, code);
                return answer == NONE && b >= blocks() ? OUTSIDE : answer;
            }
        }, some, "cost(2, 1, 8) = NONE cost(GREATEST, 1, 8) = NONE");
        doc.broken(new Reference() {
            @Override
            int cost(int b, int way, int code) {
                return b < 0 ? OUTSIDE : super.cost(b, way, code);
            }
        }, some, "cost(-1, 1, 8) = NONE cost(LEAST, 1, 8) = NONE");
        doc.sentence("or it cannot be written so.");
        doc.broken(new Reference() {
            @Override
            int cost(int b, int way, int code) {
                int answer = super.cost(b, way, code);
                return answer == NONE && code == 0 && b == 0 ? 6 + rules[0] : answer;
            }
        }, some, "cost(0, 1, 0) = NONE");
        doc.broken(new Reference() {
            @Override
            int cost(int b, int way, int code) {
                int answer = super.cost(b, way, code);
                return answer == NONE && code > 1 && b == 0 ? super.cost(b, way, 8) : answer;
            }
        }, some, "cost(0, 1, 5) = NONE cost(0, 1, 7) = NONE");
        doc.sentence("OUTSIDE: the WAY,");
        doc.broken(new Reference() {
            @Override
            int cost(int b, int way, int code) {
                return super.cost(b, way & 3, code);
            }
        }, some, "cost(0, 4, 8) = OUTSIDE cost(0, -1, 8) = OUTSIDE cost(0, LEAST, 8) = OUTSIDE");
        doc.sentence("the CODE.");
        doc.broken(new Reference() {
            @Override
            int cost(int b, int way, int code) {
                return code < 0 || code > 8 ? NONE : super.cost(b, way, code);
            }
        }, some, "cost(0, 1, 9) = OUTSIDE cost(0, 1, -1) = OUTSIDE cost(0, 1, GREATEST) = OUTSIDE");
    }

    private static void block() {
        doc.section("Promise 8: block");
        doc.sentence("`int block(int b, int what)`: Of BLOCK b: the WAY (what = 0),");
        doc.broken(new BlockElse(0), THREE, "block(0, 0) = 1 block(1, 0) = 0 block(2, 0) = 0");
        doc.sentence("the CODE (1) of THE CHOICE,");
        doc.broken(new BlockElse(1), THREE, "block(0, 1) = 0 block(1, 1) = 8 block(2, 1) = 0");
        doc.sentence("its COST (2),");
        doc.broken(new BlockElse(2), THREE, "block(0, 2) = 10 block(1, 2) = 14 block(2, 2) = 10");
        doc.sentence("how many SAMPLES it has (3),");
        doc.broken(new BlockElse(3), THREE, "block(0, 3) = 2 block(1, 3) = 2 block(2, 3) = 1");
        doc.sentence("its first bit in PACKED (4),");
        doc.broken(new BlockElse(4), THREE, "block(0, 4) = 0 block(1, 4) = 10 block(2, 4) = 24");
        doc.sentence("its SEGMENT (5);");
        doc.broken(new BlockElse(5), THREE, "block(0, 5) = 0 block(1, 5) = 0 block(2, 5) = 1");
        doc.sentence("NONE: there is no such BLOCK (b below 0, too).");
        doc.broken(new Reference() {
            @Override
            int block(int b, int what) {
                int answer = super.block(b, what);
                return answer == NONE && b >= 0 ? OUTSIDE : answer;
            }
        }, THREE, "block(3, 0) = NONE block(3, 5) = NONE block(GREATEST, 2) = NONE");
        doc.broken(new Reference() {
            @Override
            int block(int b, int what) {
                int answer = super.block(b, what);
                return answer == NONE && b < 0 ? OUTSIDE : answer;
            }
        }, THREE, "block(-1, 0) = NONE block(-1, 5) = NONE block(LEAST, 2) = NONE");
        doc.sentence("OUTSIDE: what.");
        doc.broken(new Reference() {
            @Override
            int block(int b, int what) {
                return what < 0 || what > 5 ? NONE : super.block(b, what);
            }
        }, THREE, "block(0, -1) = OUTSIDE block(0, 6) = OUTSIDE block(0, GREATEST) = OUTSIDE");
    }

    /** One thing that is told of a BLOCK is that of the next one. */
    private static final class BlockElse extends Reference {
        private final int what;

        BlockElse(int what) {
            this.what = what;
        }

        @Override
        int block(int b, int asked) {
            return super.block(asked == what ? (b + 1) % blocks() : b, asked);
        }
    }

    private static void packed() {
        String one = "rule(0, 2) add(1) ";
        doc.section("Promise 9: packed");
        doc.sentence("`int packed(int i)`: Bit i of PACKED");
        doc.broken(new Reference() {
            @Override
            int packed(int i) {
                int answer = super.packed(i);
                return i >= 0 && answer >= 0 ? 1 - answer : answer;
            }
        }, one, Edges.duePacked("00 0000 01"));
        doc.broken(new Reference() {
            @Override
            int packed(int i) {
                return i >= 0 ? super.packed(i + 1) : super.packed(i);
            }
        }, one, Edges.duePacked("00 0000 01"));
        doc.sentence("(i = -1: how many);");
        doc.broken(new Reference() {
            @Override
            int packed(int i) {
                return i == -1 ? NONE : super.packed(i);
            }
        }, "packed(-1) = 0", one, "packed(-1) = 8");
        doc.sentence("NONE: there is none such.");
        doc.broken(new Reference() {
            @Override
            int packed(int i) {
                int answer = super.packed(i);
                return answer == NONE ? 0 : answer;
            }
        }, "packed(0) = NONE", one, "packed(8) = NONE packed(GREATEST) = NONE");
        doc.sentence("OUTSIDE: i is below -1.");
        doc.broken(new Reference() {
            @Override
            int packed(int i) {
                return i < -1 ? NONE : super.packed(i);
            }
        }, "packed(-2) = OUTSIDE", one, "packed(-2) = OUTSIDE packed(LEAST) = OUTSIDE");
    }

    private static void lost() {
        doc.section("Promise 10: lost");
        doc.sentence("`int lost(int b)`: How many SAMPLES can not be known any more,"
            + " if all bits of BLOCK b of PACKED are lost:");
        doc.broken(new Reference() {
            @Override
            int lost(int b) {
                int answer = super.lost(b);
                return answer < 0 ? answer : row.size() - answer;
            }
        }, THREE, "lost(0) = 4 lost(1) = 2 lost(2) = 1");
        doc.sentence("those from the first SAMPLE of BLOCK b on");
        doc.broken(new Reference() {
            @Override
            int lost(int b) {
                int answer = super.lost(b);
                return answer < 0 ? answer : super.lost(b / rules[2] * rules[2]);
            }
        }, THREE, "lost(1) = 2");
        doc.sentence("to the last one of its SEGMENT;");
        doc.broken(new Reference() {
            @Override
            int lost(int b) {
                return super.lost(b) < 0 ? NONE : row.size() - b * rules[1];
            }
        }, THREE, "lost(0) = 4 lost(1) = 2");
        doc.broken(new Reference() {
            @Override
            int lost(int b) {
                return super.lost(b) < 0 ? NONE : samplesOf(b).size();
            }
        }, THREE, "lost(0) = 4");
        doc.sentence("NONE: there is no such BLOCK (b below 0, too).");
        doc.broken(new Reference() {
            @Override
            int lost(int b) {
                return b >= blocks() ? 0 : super.lost(b);
            }
        }, "lost(0) = NONE", THREE, "lost(3) = NONE lost(GREATEST) = NONE");
        doc.broken(new Reference() {
            @Override
            int lost(int b) {
                return b < 0 ? OUTSIDE : super.lost(b);
            }
        }, THREE, "lost(-1) = NONE lost(LEAST) = NONE");
    }

    private static void tape() {
        doc.section("Promise 11: tape");
        doc.sentence("`int tape()`: THE TAPE is what is PACKED:");
        doc.broken(new Reference() {
            @Override
            int tape() {
                return packedUpTo(blocks()).length();
            }
        }, "rule(0, 2) add(1) tape() = 8", Edges.dueTape("00 0000 01"));
        doc.broken(new Reference() {
            @Override
            int tape() {
                String before = tape;
                int answer = super.tape();
                tape = before + tape;
                return answer;
            }
        }, Edges.bits("11"), "rule(0, 2) add(1) tape() = 8", Edges.dueTape("00 0000 01"));
        doc.sentence("how many bits.");
        doc.broken(new Reference() {
            @Override
            int tape() {
                super.tape();
                return row.size();
            }
        }, "tape() = 0 rule(0, 2) add(1) tape() = 8");
    }

    private static void push() {
        doc.section("Promise 12: push");
        doc.sentence("`int push(int bit)`: A bit (0, 1) more on THE TAPE:");
        doc.broken(new Reference() {
            @Override
            int push(int bit) {
                String before = tape;
                int answer = super.push(bit);
                tape = answer > 0 ? bit + before : before;
                return answer;
            }
        }, "push(1) push(0)", Edges.dueTape("10"));
        doc.broken(new Reference() {
            @Override
            int push(int bit) {
                return super.push(bit == 1 ? 0 : bit);
            }
        }, "push(0) push(1)", Edges.dueTape("01"));
        doc.sentence("how many it has.");
        doc.broken(new Reference() {
            @Override
            int push(int bit) {
                int answer = super.push(bit);
                return answer > 0 ? answer - 1 : answer;
            }
        }, "push(1) = 1 push(0) = 2");
        doc.sentence("OUTSIDE;");
        doc.broken(new Reference() {
            @Override
            int push(int bit) {
                return super.push(bit == 0 ? 0 : 1);
            }
        }, "push(2) = OUTSIDE push(-1) = OUTSIDE push(LEAST) = OUTSIDE push(GREATEST) = OUTSIDE bit(-1) = 0");
        doc.sentence("FULL: it has 1000.");
        doc.broken(new Reference() {
            @Override
            int push(int bit) {
                return tape.length() == 999 ? FULL : super.push(bit);
            }
        }, NOUGHTS_896, Edges.times(103, "push(0)"), "push(0) = 1000");
        doc.broken(new Reference() {
            @Override
            int push(int bit) {
                int answer = super.push(bit);
                return answer == FULL ? 1000 : answer;
            }
        }, NOUGHTS_896, Edges.times(104, "push(0)"), "push(0) = FULL push(1) = FULL bit(-1) = 1000");
    }

    private static void flip() {
        doc.section("Promise 13: flip");
        doc.sentence("`int flip(int i)`: Bit i of THE TAPE is turned about:");
        doc.broken(new Reference() {
            @Override
            int flip(int i) {
                String before = tape;
                int answer = super.flip(i);
                tape = before;
                return answer;
            }
        }, Edges.bits("010"), "flip(0) flip(1)", Edges.dueTape("100"));
        doc.broken(new Reference() {
            @Override
            int flip(int i) {
                return i >= 0 && i < tape.length() ? super.flip(tape.length() - 1 - i) : super.flip(i);
            }
        }, Edges.bits("000"), "flip(0)", Edges.dueTape("100"));
        doc.sentence("what it is then.");
        doc.broken(new Reference() {
            @Override
            int flip(int i) {
                int answer = super.flip(i);
                return answer < 0 ? answer : 1 - answer;
            }
        }, Edges.bits("01"), "flip(0) = 1 flip(1) = 0");
        doc.sentence("OUTSIDE: there is no such bit.");
        doc.broken(new Reference() {
            @Override
            int flip(int i) {
                int answer = super.flip(i);
                return answer == OUTSIDE ? NONE : answer;
            }
        }, "flip(0) = OUTSIDE", Edges.bits("01"), "flip(2) = OUTSIDE flip(-1) = OUTSIDE flip(GREATEST) = OUTSIDE");
    }

    private static void cut() {
        doc.section("Promise 14: cut");
        doc.sentence("`int cut(int n)`: THE TAPE keeps its first n bits:");
        doc.broken(new Reference() {
            @Override
            int cut(int n) {
                String before = tape;
                int answer = super.cut(n);
                tape = answer < 0 ? before : before.substring(answer);
                return answer;
            }
        }, Edges.bits("10111"), "cut(2)", Edges.dueTape("10"));
        doc.broken(new Reference() {
            @Override
            int cut(int n) {
                return n >= 0 && n <= tape.length() ? super.cut(tape.length() - n) : OUTSIDE;
            }
        }, Edges.bits("10110"), "cut(2)", Edges.dueTape("10"), "cut(0)", Edges.dueTape(""));
        doc.sentence("how many went.");
        doc.broken(new Reference() {
            @Override
            int cut(int n) {
                return super.cut(n) < 0 ? OUTSIDE : tape.length();
            }
        }, Edges.bits("10110"), "cut(5) = 0 cut(2) = 3 cut(0) = 2");
        doc.sentence("OUTSIDE: n is below 0,");
        doc.broken(new Reference() {
            @Override
            int cut(int n) {
                return super.cut(Math.max(n, 0));
            }
        }, Edges.bits("10"), "cut(-1) = OUTSIDE cut(LEAST) = OUTSIDE bit(-1) = 2");
        doc.sentence("or it has fewer.");
        doc.broken(new Reference() {
            @Override
            int cut(int n) {
                return super.cut(Math.min(n, tape.length()));
            }
        }, Edges.bits("10"), "cut(3) = OUTSIDE cut(GREATEST) = OUTSIDE cut(2) = 0");
    }

    private static void bit() {
        doc.section("Promise 15: bit");
        doc.sentence("`int bit(int i)`: Bit i of THE TAPE");
        doc.broken(new Reference() {
            @Override
            int bit(int i) {
                return i >= 0 && i < tape.length() ? super.bit(tape.length() - 1 - i) : super.bit(i);
            }
        }, Edges.bits("011"), "bit(0) = 0 bit(1) = 1 bit(2) = 1");
        doc.sentence("(i = -1: how many);");
        doc.broken(new Reference() {
            @Override
            int bit(int i) {
                return i == -1 ? NONE : super.bit(i);
            }
        }, "bit(-1) = 0", Edges.bits("011"), "bit(-1) = 3");
        doc.sentence("NONE: there is none such.");
        doc.broken(new Reference() {
            @Override
            int bit(int i) {
                return i >= tape.length() ? OUTSIDE : super.bit(i);
            }
        }, "bit(0) = NONE", Edges.bits("011"), "bit(3) = NONE bit(GREATEST) = NONE");
        doc.sentence("OUTSIDE: i is below -1.");
        doc.broken(new Reference() {
            @Override
            int bit(int i) {
                return i < -1 ? NONE : super.bit(i);
            }
        }, "bit(-2) = OUTSIDE", Edges.bits("011"), "bit(-2) = OUTSIDE bit(LEAST) = OUTSIDE");
    }

    private static void read() {
        String two = "rule(0, 4) " + Edges.bits("01 1000 0101 0010");
        doc.section("Promise 16: read");
        doc.sentence("`int read(int n)`: THE TAPE is read as n SAMPLES (0 to 64),");
        doc.broken(new Reference() {
            @Override
            int read(int n) {
                return n == 0 || n == 64 ? OUTSIDE : super.read(n);
            }
        }, "read(0) = 0 rule(2, 8)", Edges.times(56, "push(0)"), "read(64) = 64");
        doc.broken(new Reference() {
            @Override
            int read(int n) {
                tape = packedUpTo(blocks());
                return super.read(n);
            }
        }, "rule(0, 4) add(1) add(2)", Edges.bits("01 1000 0101 0010"), "read(2) = 2", Edges.dueRow(5, 6));
        doc.sentence("which are THE ROW then:");
        doc.broken(new Reference() {
            @Override
            int read(int n) {
                List<Integer> before = row;
                int answer = super.read(n);
                row = before;
                return answer;
            }
        }, two, "add(1) read(2) = 2", Edges.dueRow(5, 6));
        doc.broken(new Reference() {
            @Override
            int read(int n) {
                List<Integer> before = row;
                int answer = super.read(n);
                if (answer >= 0) {
                    row.addAll(0, before);
                }
                return answer;
            }
        }, two, "add(1) read(2) = 2", Edges.dueRow(5, 6));
        doc.sentence("n.");
        doc.broken(new Reference() {
            @Override
            int read(int n) {
                int answer = super.read(n);
                return answer < 0 ? answer : 1;
            }
        }, "read(0) = 0", two, "read(2) = 2");
        doc.sentence("OUTSIDE;");
        doc.broken(new Reference() {
            @Override
            int read(int n) {
                return super.read(Math.min(Math.max(n, 0), 64));
            }
        }, "read(-1) = OUTSIDE read(65) = OUTSIDE read(LEAST) = OUTSIDE read(GREATEST) = OUTSIDE");
        doc.sentence("FAULT");
        doc.broken(new Reference() {
            @Override
            int read(int n) {
                int answer = super.read(n);
                return answer == FAULT ? row.size() : answer;
            }
        }, two, "read(1) = FAULT read(3) = FAULT read(0) = FAULT");
        doc.sentence("(THE ROW stays as it was).");
        doc.broken(new Reference() {
            @Override
            int read(int n) {
                int answer = super.read(n);
                if (answer == FAULT) {
                    row = new ArrayList<>();
                }
                return answer;
            }
        }, two, "add(1) add(2) read(3) = FAULT", Edges.dueRow(1, 2));
        doc.broken(new Reference() {
            @Override
            int[] firstFault(int n, List<Integer> got) {
                int[] first = super.firstFault(n, got);
                if (first[0] != 0) {
                    row = got;
                }
                return first;
            }
        }, two, "add(1) add(2) read(3) = FAULT", Edges.dueRow(1, 2));
    }

    private static void fault() {
        String left = Edges.rules(4, 2, 2) + Edges.bits("01 0000 1001 1");
        doc.section("Promise 17: fault");
        doc.sentence("`int fault(int what)`: Of the FAULT that read() told last:");
        doc.broken(new Reference() {
            @Override
            int read(int n) {
                int[] before = fault;
                int answer = super.read(n);
                fault = before[0] != 0 ? before : fault;
                return answer;
            }
        }, left, "read(2) = FAULT read(3) = FAULT", Edges.dueFault(1, 11, 2), "read(0) = FAULT", Edges.dueFault(4, 0, 0));
        doc.broken(new Reference() {
            @Override
            int fault(int what) {
                return fault[0] == 1 && what == 1 ? tape.length() : super.fault(what);
            }
        }, left, "read(3) = FAULT push(0) = 12", Edges.dueFault(1, 11, 2));
        doc.sentence("its number (what = 0;");
        doc.broken(new Reference() {
            @Override
            int fault(int what) {
                return what == 0 && fault[0] != 0 ? 1 : super.fault(what);
            }
        }, left, "read(2) = FAULT fault(0) = 4 read(3) = FAULT fault(0) = 1");
        doc.sentence("0: none was told,");
        doc.broken(new Reference() {
            @Override
            int fault(int what) {
                return what == 0 && fault[0] == 0 ? NONE : super.fault(what);
            }
        }, "fault(0) = 0", left, "fault(0) = 0 read(65) = OUTSIDE fault(0) = 0");
        doc.sentence("or the last read() that was not OUTSIDE was done),");
        doc.broken(new Reference() {
            @Override
            int read(int n) {
                int[] before = fault;
                int answer = super.read(n);
                fault = answer >= 0 ? before : fault;
                return answer;
            }
        }, left, "read(2) = FAULT cut(10) = 1 read(2) = 2 fault(0) = 0");
        doc.broken(new Reference() {
            @Override
            int read(int n) {
                int answer = super.read(n);
                fault = answer == OUTSIDE ? new int[] {0, NONE, NONE} : fault;
                return answer;
            }
        }, left, "read(2) = FAULT read(65) = OUTSIDE fault(0) = 4 read(-1) = OUTSIDE", Edges.dueFault(4, 10, 2));
        doc.sentence("its place (1;");
        doc.broken(new Reference() {
            @Override
            int fault(int what) {
                return super.fault(what == 1 ? 2 : what);
            }
        }, left, "read(2) = FAULT fault(1) = 10 read(3) = FAULT fault(1) = 11");
        doc.sentence("NONE: likewise),");
        doc.broken(new Reference() {
            @Override
            int fault(int what) {
                return what == 1 && fault[0] == 0 ? 0 : super.fault(what);
            }
        }, "fault(1) = NONE", left, "read(2) = FAULT cut(10) = 1 read(2) = 2 fault(1) = NONE");
        doc.sentence("how many SAMPLES were read ahead of it (2;");
        doc.broken(new Reference() {
            @Override
            int fault(int what) {
                return what == 2 && fault[0] != 0 ? row.size() : super.fault(what);
            }
        }, left, "read(1) = FAULT fault(2) = 1 read(2) = FAULT fault(2) = 2 read(0) = FAULT fault(2) = 0");
        doc.sentence("NONE: likewise;");
        doc.broken(new Reference() {
            @Override
            int fault(int what) {
                return what == 2 && fault[0] == 0 ? row.size() : super.fault(what);
            }
        }, "fault(2) = NONE", left, "read(2) = FAULT cut(10) = 1 read(2) = 2 fault(2) = NONE");
    }

    private static void faultCounts() {
        String four = Edges.rules(4, 2, 2);
        doc.sentence("a BARE one counts as soon as all its bits are read,");
        doc.broken(new Reference() {
            @Override
            int[] firstFault(int n, List<Integer> got) {
                int[] first = super.firstFault(n, got);
                // The BARE one counts only with the BLOCK that it is of.
                return first[2] == 1 ? new int[] {first[0], first[1], 0} : first;
            }
        }, four, Edges.bits("01 1000 1001"), "read(2) = FAULT", Edges.dueFault(1, 10, 1));
        doc.broken(new Reference() {
            @Override
            int[] firstFault(int n, List<Integer> got) {
                int[] first = super.firstFault(n, got);
                // The BARE one counts as soon as its first bit is read.
                return first[2] == 0 && first[1] > 6 ? new int[] {first[0], first[1], 1} : first;
            }
        }, four, Edges.bits("01 1000 100"), "read(2) = FAULT", Edges.dueFault(1, 9, 0));
        doc.sentence("those of a BLOCK of CODE 0 as soon as its head, and the BARE one, if there is one, are read).");
        doc.broken(new Reference() {
            @Override
            int[] firstFault(int n, List<Integer> got) {
                int[] first = super.firstFault(n, got);
                // They count only when the next head is read.
                return first[0] == 1 && first[2] > 0 ? new int[] {1, first[1], first[2] - 1} : first;
            }
        }, four, Edges.bits("01 0000 1001"), "read(3) = FAULT", Edges.dueFault(1, 10, 2), Edges.bits("01 0000"),
            "read(5) = FAULT", Edges.dueFault(1, 16, 4));
        doc.broken(new Reference() {
            @Override
            int[] firstFault(int n, List<Integer> got) {
                int[] first = super.firstFault(n, got);
                // They count ahead of the BARE one.
                return first[0] == 1 && first[2] == 0 && first[1] >= 6 ? new int[] {1, first[1], 1} : first;
            }
        }, four, Edges.bits("01 0000 100"), "read(2) = FAULT", Edges.dueFault(1, 9, 0));
        doc.sentence("OUTSIDE.");
        doc.broken(new Reference() {
            @Override
            int fault(int what) {
                return what < 0 || what > 2 ? NONE : super.fault(what);
            }
        }, "fault(3) = OUTSIDE fault(-1) = OUTSIDE read(1) = FAULT fault(3) = OUTSIDE fault(GREATEST) = OUTSIDE");
    }

    // WIDTH 4, SIZE 2, EVERY 3; 9 and 9; a TAPE of ten bits; FAULT 1 behind them.
    private static final String SOME = Edges.rules(4, 2, 3) + Edges.adds(9, 9) + "tape() = 10 read(5) = FAULT ";
    private static final String DUE_SOME = "count(5) = 4 count(6) = 2 count(7) = 3 " + Edges.dueRow(9, 9)
        + Edges.dueTape("01 0000 1001") + Edges.dueFault(1, 10, 2);
    private static final String CHANGE_ALL =
        "clear() rule(0, 8) rule(1, 5) rule(2, 7) cut(0) read(0) = 0 add(200) add(100) add(0) push(1) ";

    private static void image() {
        doc.section("Promise 18: image");
        doc.sentence("`int image(int k)`: All but IMAGES is kept in an IMAGE (0, 1),");
        for (int part = 0; part < 4; part++) {
            int lacking = part;
            doc.broken(new Reference() {
                @Override
                int image(int k) {
                    int answer = super.image(k);
                    if (answer == 1) {
                        forget(images[k], lacking);
                    }
                    return answer;
                }
            }, SOME, "image(0) image(1)", CHANGE_ALL, "restore(0)", DUE_SOME, CHANGE_ALL, "restore(1)", DUE_SOME);
        }
        doc.broken(new Reference() {
            @Override
            int restore(int k) {
                int answer = super.restore(k);
                images[1 - k] = null;
                return answer;
            }
        }, "image(0) image(1) restore(0) count(9) = 3 restore(1) = 1");
        doc.sentence("in place of what was kept there:");
        doc.broken(new Reference() {
            @Override
            int image(int k) {
                return (k == 0 || k == 1) && images[k] != null ? 1 : super.image(k);
            }
        }, "add(1) image(0) add(2) image(0) clear() restore(0)", Edges.dueRow(1, 2));
        doc.broken(new Reference() {
            @Override
            int image(int k) {
                int answer = super.image(k);
                images[1 - Math.max(0, Math.min(k, 1))] = null;
                return answer;
            }
        }, "add(1) image(0) add(2) image(1) restore(0)", Edges.dueRow(1), "restore(1)", Edges.dueRow(1, 2));
        doc.sentence("1.");
        doc.broken(new Reference() {
            @Override
            int image(int k) {
                int answer = super.image(k);
                return answer == 1 ? k : answer;
            }
        }, "image(0) = 1 image(1) = 1 image(0) = 1");
        doc.sentence("OUTSIDE.");
        doc.broken(new Reference() {
            @Override
            int image(int k) {
                return super.image(k & 1);
            }
        }, "image(2) = OUTSIDE image(-1) = OUTSIDE image(LEAST) = OUTSIDE image(GREATEST) = OUTSIDE count(9) = 0");
    }

    /** One part of what an object holds is as in a new one. */
    private static void forget(Reference y, int part) {
        Reference fresh = new Reference();
        if (part == 0) {
            y.rules = fresh.rules;
        } else if (part == 1) {
            y.row = fresh.row;
        } else if (part == 2) {
            y.tape = fresh.tape;
        } else {
            y.fault = fresh.fault;
        }
    }

    private static void restore() {
        doc.section("Promise 19: restore");
        doc.sentence("`int restore(int k)`: All but IMAGES is as it was when it was kept;");
        for (int part = 0; part < 4; part++) {
            int lacking = part;
            doc.broken(new Reference() {
                @Override
                int restore(int k) {
                    int answer = super.restore(k);
                    if (answer == 1) {
                        forget(this, lacking);
                    }
                    return answer;
                }
            }, SOME, "image(0)", CHANGE_ALL, "restore(0)", DUE_SOME);
        }
        doc.broken(new Reference() {
            @Override
            int image(int k) {
                int answer = super.image(k);
                if (answer == 1) {
                    images[k] = this;
                }
                return answer;
            }
        }, SOME, "image(0)", CHANGE_ALL, "restore(0)", DUE_SOME);
        doc.sentence("the IMAGE stays:");
        doc.broken(new Reference() {
            @Override
            int restore(int k) {
                int answer = super.restore(k);
                if (answer == 1) {
                    images[k] = null;
                }
                return answer;
            }
        }, SOME, "image(0)", CHANGE_ALL, "restore(0) count(9) = 1", CHANGE_ALL, "restore(0) = 1", DUE_SOME);
        doc.broken(new Reference() {
            @Override
            int restore(int k) {
                int answer = super.restore(k);
                if (answer == 1) {
                    row = images[k].row;
                }
                return answer;
            }
        }, SOME, "image(0) restore(0) add(1) = 3 restore(0)", DUE_SOME);
        doc.sentence("1.");
        doc.broken(new Reference() {
            @Override
            int restore(int k) {
                int answer = super.restore(k);
                return answer == 1 ? k : answer;
            }
        }, "image(0) restore(0) = 1 image(1) restore(1) = 1 restore(0) = 1");
        doc.sentence("OUTSIDE;");
        doc.broken(new Reference() {
            @Override
            int restore(int k) {
                return k < 0 || k > 1 ? STATE : super.restore(k);
            }
        }, "restore(2) = OUTSIDE restore(-1) = OUTSIDE restore(LEAST) = OUTSIDE restore(GREATEST) = OUTSIDE");
        doc.sentence("STATE: nothing was kept in it.");
        doc.broken(new Reference() {
            @Override
            int restore(int k) {
                return (k == 0 || k == 1) && images[k] == null ? 1 : super.restore(k);
            }
        }, "restore(0) = STATE restore(1) = STATE image(0) restore(1) = STATE restore(0) = 1");
        doc.broken(new Reference() {
            @Override
            int restore(int k) {
                return images[0] == null ? STATE : super.restore(k);
            }
        }, "image(1) restore(0) = STATE restore(1) = 1");
    }

    private static void count() {
        String all = THREE + "push(1) push(0) push(1) image(1) ";
        String[] sentences = {
            "`int count(int what)`: How many SAMPLES there are (0),", "BLOCKS (1),", "SEGMENTS (2),",
            "bits PACKED (3),", "bits of THE TAPE (4),", "WIDTH (5),", "SIZE (6),", "EVERY (7),",
            "how many BLOCKS have a CHOICE of CODE 0 (8),", "which IMAGES are kept, a set: bits 0, 1 (9).",
        };
        int[] atFirst = {0, 0, 0, 0, 0, 8, 8, 4, 0, 0};
        int[] then = {5, 3, 2, 34, 3, 4, 2, 2, 2, 2};
        doc.section("Promise 20: count");
        for (int what = 0; what < sentences.length; what++) {
            String call = "count(" + what + ") = ";
            doc.sentence(sentences[what]);
            doc.broken(new CountOff(what, 1), call + atFirst[what]);
            doc.broken(new CountOff(what, -1), all, call + then[what]);
        }
        doc.broken(new CountOff(9, 1), "image(0) count(9) = 1 image(1) count(9) = 3");
        doc.sentence("OUTSIDE.");
        doc.broken(new Reference() {
            @Override
            int count(int what) {
                return what < 0 || what > 9 ? NONE : super.count(what);
            }
        }, "count(10) = OUTSIDE count(-1) = OUTSIDE count(LEAST) = OUTSIDE count(GREATEST) = OUTSIDE");
    }

    /** One count is not as it is. */
    private static final class CountOff extends Reference {
        private final int what;
        private final int by;

        CountOff(int what, int by) {
            this.what = what;
            this.by = by;
        }

        @Override
        int count(int asked) {
            return super.count(asked) + (asked == what ? by : 0);
        }
    }
}
