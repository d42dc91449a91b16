/** Each promise of the document: ordinary inputs, the edges that it names, wrong inputs; worked by hand. */
public final class PromisesTest {
    private static final int OUTSIDE = -2;
    private static final int STATE = -3;
    private static final int FULL = -4;
    private static final int NONE = -6;
    private static final int FAULT = -7;
    private static final int[] FAR = {Integer.MIN_VALUE, Integer.MIN_VALUE + 1, Integer.MAX_VALUE - 1, Integer.MAX_VALUE};

    private static final Checks checks = new Checks();

    public static void main(String[] args) {
        newObject();
        rule();
        add();
        clear();
        sample();
        ahead();
        foldIsOneToOne();
        cost();
        block();
        choiceOfEqualCosts();
        choiceFollowsTheRow();
        packed();
        lost();
        tape();
        push();
        flip();
        cut();
        bit();
        read();
        readNothing();
        readEveryCode();
        fault();
        faultOfMissingBits();
        faultOfCodes();
        faultOfFolds();
        faultOfBitsLeft();
        faultStaysOrGoes();
        image();
        restore();
        count();
        farNumbers();
        refusedInOrder();
        longestRows();
        checks.end();
    }

    private static void due(String call, int got, int want) {
        checks.due(call, got, want);
    }

    private static SensorTapes ruled(int width, int size, int every) {
        SensorTapes x = new SensorTapes();
        x.rule(0, width);
        x.rule(1, size);
        x.rule(2, every);
        return x;
    }

    private static void addAll(SensorTapes x, int... samples) {
        for (int v : samples) {
            x.add(v);
        }
    }

    private static void pushAll(SensorTapes x, String bits) {
        for (char c : bits.toCharArray()) {
            if (c != ' ') {
                x.push(c - '0');
            }
        }
    }

    private static void dueRow(String when, SensorTapes x, int... samples) {
        due(when + ": count(0)", x.count(0), samples.length);
        for (int i = 0; i < samples.length; i++) {
            due(when + ": sample(" + i + ")", x.sample(i), samples[i]);
        }
    }

    private static void duePacked(String when, SensorTapes x, String bits) {
        String all = bits.replace(" ", "");
        due(when + ": packed(-1)", x.packed(-1), all.length());
        for (int i = 0; i < all.length(); i++) {
            due(when + ": packed(" + i + ")", x.packed(i), all.charAt(i) - '0');
        }
        due(when + ": packed(behind)", x.packed(all.length()), NONE);
    }

    private static void dueTape(String when, SensorTapes x, String bits) {
        String all = bits.replace(" ", "");
        due(when + ": bit(-1)", x.bit(-1), all.length());
        for (int i = 0; i < all.length(); i++) {
            due(when + ": bit(" + i + ")", x.bit(i), all.charAt(i) - '0');
        }
        due(when + ": bit(behind)", x.bit(all.length()), NONE);
    }

    private static void dueFault(String when, SensorTapes x, int number, int place, int samples) {
        due(when + ": fault(0)", x.fault(0), number);
        due(when + ": fault(1)", x.fault(1), place);
        due(when + ": fault(2)", x.fault(2), samples);
    }

    /** A tape of these bits, read as n samples, has this fault. */
    private static void dueFaultOf(String bits, SensorTapes x, int n, int number, int place, int samples) {
        x.cut(0);
        pushAll(x, bits);
        due("read(" + n + ") of " + bits, x.read(n), FAULT);
        dueFault("read(" + n + ") of " + bits, x, number, place, samples);
    }

    private static void newObject() {
        SensorTapes x = new SensorTapes();
        int[] counts = {0, 0, 0, 0, 0, 8, 8, 4, 0, 0};
        for (int what = 0; what < counts.length; what++) {
            due("new: count(" + what + ")", x.count(what), counts[what]);
        }
        dueFault("new", x, 0, NONE, NONE);
        due("new: bit(-1)", x.bit(-1), 0);
        due("new: packed(-1)", x.packed(-1), 0);
        due("new: restore(0)", x.restore(0), STATE);
        due("new: restore(1)", x.restore(1), STATE);
        due("OUTSIDE", SensorTapes.OUTSIDE, OUTSIDE);
        due("STATE", SensorTapes.STATE, STATE);
        due("FULL", SensorTapes.FULL, FULL);
        due("NONE", SensorTapes.NONE, NONE);
        due("FAULT", SensorTapes.FAULT, FAULT);
    }

    private static void rule() {
        SensorTapes x = new SensorTapes();
        due("rule(0, 2)", x.rule(0, 2), 8);
        due("rule(0, 8)", x.rule(0, 8), 2);
        due("rule(1, 1)", x.rule(1, 1), 8);
        due("rule(1, 8)", x.rule(1, 8), 1);
        due("rule(2, 1)", x.rule(2, 1), 4);
        due("rule(2, 8)", x.rule(2, 8), 1);
        due("rule(2, 8) again", x.rule(2, 8), 8);
        int[][] outside = {{0, 1}, {0, 9}, {0, 0}, {0, -1}, {1, 0}, {1, 9}, {2, 0}, {2, 9}, {-1, 4}, {3, 4}};
        for (int[] wrong : outside) {
            due("rule(" + wrong[0] + ", " + wrong[1] + ")", x.rule(wrong[0], wrong[1]), OUTSIDE);
        }
        due("rules: count(5)", x.count(5), 8);
        due("rules: count(6)", x.count(6), 8);
        due("rules: count(7)", x.count(7), 8);
        addAll(x, 3, 15, 16, 0);
        due("rule(0, 4) with a 16", x.rule(0, 4), STATE);
        due("rule(0, 4) refused: count(5)", x.count(5), 8);
        due("rule(0, 1) with a 16", x.rule(0, 1), OUTSIDE);
        due("rule(0, 5) with a 16", x.rule(0, 5), 8);
        due("rule(1, 2) with a 16", x.rule(1, 2), 8);
        due("rule(2, 2) with a 16", x.rule(2, 2), 8);
        dueRow("rules change no sample", x, 3, 15, 16, 0);
        SensorTapes even = new SensorTapes();
        addAll(even, 3, 15);
        due("rule(0, 4) with a 15", even.rule(0, 4), 8);
        due("rule(0, 3) with a 15", even.rule(0, 3), STATE);
    }

    private static void add() {
        SensorTapes x = ruled(3, 8, 4);
        due("add(0)", x.add(0), 1);
        due("add(7)", x.add(7), 2);
        due("add(8)", x.add(8), OUTSIDE);
        due("add(-1)", x.add(-1), OUTSIDE);
        for (int i = 3; i <= 64; i++) {
            due("add " + i, x.add(i % 8), i);
        }
        due("add(0) to 64", x.add(0), FULL);
        due("add(8) to 64", x.add(8), OUTSIDE);
        due("count(0) at 64", x.count(0), 64);
        due("sample(63)", x.sample(63), 0);
        due("sample(64)", x.sample(64), NONE);
    }

    private static void clear() {
        SensorTapes x = ruled(4, 2, 3);
        due("clear() of nothing", x.clear(), 0);
        addAll(x, 1, 2, 3);
        x.tape();
        due("clear() of three", x.clear(), 3);
        due("cleared: sample(0)", x.sample(0), NONE);
        due("cleared: packed(-1)", x.packed(-1), 0);
        due("cleared: packed(0)", x.packed(0), NONE);
        due("cleared: count(8)", x.count(8), 0);
        due("cleared: the tape stays", x.bit(-1) > 0 ? 1 : 0, 1);
        due("cleared: count(5)", x.count(5), 4);
        due("cleared: count(6)", x.count(6), 2);
        due("cleared: count(7)", x.count(7), 3);
        due("cleared: add(9)", x.add(9), 1);
        dueRow("cleared", x, 9);
    }

    private static void sample() {
        SensorTapes x = new SensorTapes();
        addAll(x, 255, 0, 17);
        dueRow("three", x, 255, 0, 17);
        due("sample(3)", x.sample(3), NONE);
        due("sample(-1)", x.sample(-1), NONE);
    }

    private static void ahead() {
        SensorTapes x = ruled(4, 2, 2);
        addAll(x, 10, 4, 0, 9, 15, 15, 3);
        // Of sample 1 there is no b; sample 4 is bare; of sample 5 b would be of another segment.
        int[][] told = {{1, 8, 10, 10, 10}, {2, 8, 4, 0, 7}, {3, 8, 0, 0, 2}, {5, 8, 15, 15, 15}, {6, 8, 15, 15, 15}};
        int[][] folds = {{1, 7, 11, 11, 11}, {2, 15, 7, 0, 13}, {3, 2, 9, 9, 9}, {5, 14, 0, 0, 0}, {6, 9, 12, 12, 12}};
        for (int row = 0; row < told.length; row++) {
            for (int way = 0; way < 4; way++) {
                int i = told[row][0];
                due("ahead(" + i + ", " + way + ", 0)", x.ahead(i, way, 0), told[row][way + 1]);
                due("ahead(" + i + ", " + way + ", 1)", x.ahead(i, way, 1), folds[row][way + 1]);
            }
        }
        int[] none = {-1, 0, 4, 7, 8};
        for (int i : none) {
            due("ahead(" + i + ", 1, 0)", x.ahead(i, 1, 0), NONE);
            due("ahead(" + i + ", 1, 1)", x.ahead(i, 1, 1), NONE);
            due("ahead(" + i + ", 4, 0)", x.ahead(i, 4, 0), OUTSIDE);
            due("ahead(" + i + ", 0, 2)", x.ahead(i, 0, 2), OUTSIDE);
        }
        due("ahead(1, -1, 0)", x.ahead(1, -1, 0), OUTSIDE);
        due("ahead(1, 4, 0)", x.ahead(1, 4, 0), OUTSIDE);
        due("ahead(1, 0, -1)", x.ahead(1, 0, -1), OUTSIDE);
        due("ahead(1, 0, 2)", x.ahead(1, 0, 2), OUTSIDE);
        SensorTapes above = ruled(4, 8, 1);
        addAll(above, 3, 12, 13);
        due("2 a less b above TOP", above.ahead(2, 2, 0), 15);
        due("its fold", above.ahead(2, 2, 1), 2);
        due("a and b by 2, cut", above.ahead(2, 3, 0), 7);
    }

    /** For each width and each thing told ahead the folds are 0 to TOP, each once, and are read back. */
    private static void foldIsOneToOne() {
        for (int width = 2; width <= 8; width++) {
            int top = (1 << width) - 1;
            for (int e = 0; e <= top; e++) {
                boolean[] seen = new boolean[top + 1];
                for (int v = 0; v <= top; v++) {
                    SensorTapes x = ruled(width, 8, 4);
                    addAll(x, e, v);
                    int f = x.ahead(1, 1, 1);
                    String pair = "width " + width + ", told " + e + ", sample " + v;
                    due(pair + ": a new fold", f >= 0 && f <= top && !seen[f] ? 1 : 0, 1);
                    if (f >= 0 && f <= top) {
                        seen[f] = true;
                    }
                    x.tape();
                    x.clear();
                    due(pair + ": read(2)", x.read(2), 2);
                    due(pair + ": read back", x.sample(1), v);
                }
            }
        }
    }

    private static void cost() {
        SensorTapes x = ruled(4, 4, 2);
        addAll(x, 5, 5, 5, 5, 5, 6, 4);
        // Block 0 has a bare sample: 6 and 4 bits; its folds by way 1 are 0 0 0, by way 0 (8 told) 5 5 5.
        int[] byWay1 = {10, 13, 16, 19, 22, NONE, NONE, NONE, 22};
        int[] byWay0 = {NONE, 28, 22, 22, 22, NONE, NONE, NONE, 22};
        // Block 1 has none: by way 1 the folds are 0, 2, 3.
        int[] second = {NONE, 14, 14, 15, 18, NONE, NONE, NONE, 18};
        for (int code = 0; code <= 8; code++) {
            due("cost(0, 1, " + code + ")", x.cost(0, 1, code), byWay1[code]);
            due("cost(0, 0, " + code + ")", x.cost(0, 0, code), byWay0[code]);
            due("cost(1, 1, " + code + ")", x.cost(1, 1, code), second[code]);
        }
        for (int b : new int[] {-1, 2, 3}) {
            due("cost(" + b + ", 0, 8)", x.cost(b, 0, 8), NONE);
            due("cost(" + b + ", 4, 8)", x.cost(b, 4, 8), OUTSIDE);
            due("cost(" + b + ", 0, 9)", x.cost(b, 0, 9), OUTSIDE);
        }
        due("cost(0, -1, 0)", x.cost(0, -1, 0), OUTSIDE);
        due("cost(0, 4, 0)", x.cost(0, 4, 0), OUTSIDE);
        due("cost(0, 0, -1)", x.cost(0, 0, -1), OUTSIDE);
        due("cost(0, 0, 9)", x.cost(0, 0, 9), OUTSIDE);
        for (int width = 2; width <= 8; width++) {
            SensorTapes bare = ruled(width, 1, 1);
            bare.add(0);
            for (int code = 0; code <= 8; code++) {
                boolean fits = code == 0 || code == 8 || code <= width;
                due("width " + width + ": cost(0, 3, " + code + ")", bare.cost(0, 3, code), fits ? 6 + width : NONE);
            }
        }
        SensorTapes wide = ruled(8, 2, 1);
        addAll(wide, 0, 255);
        due("255 by k = 0", wide.cost(0, 1, 1), 6 + 8 + 256);
        due("255 by k = 6", wide.cost(0, 1, 7), 6 + 8 + 3 + 1 + 6);
    }

    private static void block() {
        SensorTapes x = ruled(4, 2, 2);
        // Blocks: (9 9) nothing by way 1; (9 9) nothing; (0 15) bare, then fold 14, plainly; (15) nothing by way 1.
        addAll(x, 9, 9, 9, 9, 0, 15, 15);
        int[][] answers = {
            {1, 0, 10, 2, 0, 0},
            {1, 0, 6, 2, 10, 0},
            {0, 8, 14, 2, 16, 1},
            {1, 0, 6, 1, 30, 1},
        };
        for (int b = answers.length - 1; b >= 0; b--) {
            for (int what = 0; what < 6; what++) {
                due("block(" + b + ", " + what + ")", x.block(b, what), answers[b][what]);
            }
        }
        for (int what = 0; what < 6; what++) {
            due("block(-1, " + what + ")", x.block(-1, what), NONE);
            due("block(4, " + what + ")", x.block(4, what), NONE);
        }
        for (int b = -1; b <= 4; b++) {
            due("block(" + b + ", -1)", x.block(b, -1), OUTSIDE);
            due("block(" + b + ", 6)", x.block(b, 6), OUTSIDE);
        }
        x.add(0);
        // By way 1 its folds are 0 and 15, plainly.
        due("the last block grows: cost", x.block(3, 2), 14);
        due("the last block grows: samples", x.block(3, 3), 2);
        x.add(1);
        due("a new segment", x.block(4, 5), 2);
        due("a new segment's first bit", x.block(4, 4), 44);
        x.rule(0, 8);
        due("a wider rule: cost", x.block(0, 2), 14);
        x.rule(1, 8);
        due("greater blocks: samples", x.block(0, 3), 8);
        due("greater blocks: the last one", x.block(1, 3), 1);
        due("greater blocks: its segment", x.block(1, 5), 0);
        x.rule(2, 1);
        due("fewer a segment: its segment", x.block(1, 5), 1);
        due("fewer a segment: its cost", x.block(1, 2), 14);
    }

    /** Of equal costs the least way comes before the least code. */
    private static void choiceOfEqualCosts() {
        SensorTapes x = ruled(4, 2, 1);
        addAll(x, 8, 8);
        due("all ways cost 10: way", x.block(0, 0), 0);
        due("all ways cost 10: code", x.block(0, 1), 0);
        x.clear();
        addAll(x, 0, 15);
        // By way 0 (8 told) the fold is 14, by the others 15: k = 2 and k = 3 and plainly.
        due("0 15, way 0, k = 2", x.cost(0, 0, 3), 10 + 6);
        due("0 15, way 0, k = 3", x.cost(0, 0, 4), 10 + 5);
        due("0 15, plainly", x.cost(0, 0, 8), 14);
        due("0 15: way", x.block(0, 0), 0);
        due("0 15: code", x.block(0, 1), 8);
        x.clear();
        x.rule(1, 3);
        // Way 0 tells 8: folds 2, 1 (k = 0: 3 + 2); way 1: folds 0, 3 (1 + 4): the same.
        addAll(x, 9, 9, 7);
        due("9 9 7, way 0, code 1", x.cost(0, 0, 1), 15);
        due("9 9 7, way 1, code 1", x.cost(0, 1, 1), 15);
        due("9 9 7, way 0, code 2", x.cost(0, 0, 2), 15);
        due("9 9 7: way", x.block(0, 0), 0);
        due("9 9 7: code", x.block(0, 1), 1);
    }

    /** What was asked of an earlier row says nothing of the one that is there now. */
    private static void choiceFollowsTheRow() {
        SensorTapes x = ruled(4, 2, 2);
        addAll(x, 9, 9, 9, 9);
        x.tape();
        due("nines: block(0, 0)", x.block(0, 0), 1);
        x.image(0);
        x.clear();
        addAll(x, 8, 8, 0, 15, 1);
        duePacked("other samples", x, "00 0000 1000  00 1000 1111 1110  00 0000 0001");
        due("read(4) of nines", x.read(4), 4);
        duePacked("read nines", x, "01 0000 1001  01 0000");
        x.clear();
        addAll(x, 8, 8, 8, 8);
        duePacked("eights", x, "00 0000 1000  00 0000");
        due("restore(0) of nines", x.restore(0), 1);
        duePacked("restored nines", x, "01 0000 1001  01 0000");
        due("restored nines: count(8)", x.count(8), 2);
    }

    private static void packed() {
        SensorTapes x = ruled(4, 2, 2);
        due("packed(0) of nothing", x.packed(0), NONE);
        addAll(x, 9, 9, 9, 9, 0, 15, 15);
        duePacked("seven", x, "01 0000 1001  01 0000  00 1000 0000 1110  01 0000");
        x.clear();
        x.rule(0, 8);
        x.rule(1, 4);
        addAll(x, 100, 100, 101, 101, 103, 105, 107, 109, 7);
        duePacked("the first run", x, "01 0001 01100100 1 001 1  10 0001 00001 1 1 1  00 0000 00000111");
        due("packed(-2)", x.packed(-2), OUTSIDE);
        SensorTapes rests = ruled(6, 4, 1);
        addAll(rests, 20, 23, 18, 24);
        // By way 1 the folds are 6, 9, 12: k = 2 writes 4, 5, 6 bits; way 3 told 20, 21, 20: 6, 5, 8: 4, 4, 5.
        duePacked("rests of two bits", rests, "11 0011 010100  01 10  01 01  001 00");
        rests.tape();
        rests.add(0);
        due("a sample more: packed(-1)", rests.packed(-1), 25 + 12);
        due("the tape stays", rests.bit(-1), 25);
    }

    private static void lost() {
        SensorTapes x = ruled(8, 3, 2);
        for (int i = 0; i < 14; i++) {
            x.add(i);
        }
        int[] gone = {6, 3, 6, 3, 2};
        for (int b = 0; b < gone.length; b++) {
            due("lost(" + b + ")", x.lost(b), gone[b]);
        }
        due("lost(5)", x.lost(5), NONE);
        due("lost(-1)", x.lost(-1), NONE);
        x.rule(2, 4);
        due("four a segment: lost(0)", x.lost(0), 12);
        due("four a segment: lost(3)", x.lost(3), 3);
        due("four a segment: lost(4)", x.lost(4), 2);
        x.rule(2, 8);
        due("one segment: lost(0)", x.lost(0), 14);
        due("one segment: lost(4)", x.lost(4), 2);
    }

    private static void tape() {
        SensorTapes x = ruled(4, 2, 2);
        addAll(x, 9, 9, 9, 9, 0, 15, 15);
        pushAll(x, "1111");
        due("tape()", x.tape(), 36);
        dueTape("tape()", x, "01 0000 1001  01 0000  00 1000 0000 1110  01 0000");
        dueRow("tape()", x, 9, 9, 9, 9, 0, 15, 15);
        due("flip(0)", x.flip(0), 1);
        due("packed(0) stays", x.packed(0), 0);
        x.clear();
        due("tape() of nothing", x.tape(), 0);
        due("bit(0) of nothing", x.bit(0), NONE);
    }

    private static void push() {
        SensorTapes x = new SensorTapes();
        due("push(2)", x.push(2), OUTSIDE);
        due("push(-1)", x.push(-1), OUTSIDE);
        // An object answers 512 calls, so most of the 1000 bits come from 64 BARE SAMPLES of 14 bits each.
        x.rule(1, 1);
        x.rule(2, 1);
        for (int i = 0; i < 64; i++) {
            x.add(0);
        }
        due("tape() of 64 bare ones", x.tape(), 896);
        for (int i = 897; i <= 1000; i++) {
            due("push " + i, x.push(i % 3 == 0 ? 1 : 0), i);
        }
        due("push(0) on 1000", x.push(0), FULL);
        due("push(1) on 1000", x.push(1), FULL);
        due("push(2) on 1000", x.push(2), OUTSIDE);
        due("bit(998)", x.bit(998), 1);
        due("bit(999)", x.bit(999), 0);
        due("bit(1000)", x.bit(1000), NONE);
        due("cut(999)", x.cut(999), 1);
        due("push(1) on 999", x.push(1), 1000);
        due("bit(999) anew", x.bit(999), 1);
        due("image(1) of 1000", x.image(1), 1);
        due("cut(0) of 1000", x.cut(0), 1000);
        due("restore(1) of 1000", x.restore(1), 1);
        due("bit(-1) of 1000", x.bit(-1), 1000);
    }

    private static void flip() {
        SensorTapes x = new SensorTapes();
        due("flip(0) of nothing", x.flip(0), OUTSIDE);
        pushAll(x, "010");
        due("flip(0)", x.flip(0), 1);
        due("flip(1)", x.flip(1), 0);
        due("flip(2)", x.flip(2), 1);
        due("flip(2) again", x.flip(2), 0);
        dueTape("flips", x, "100");
        due("flip(3)", x.flip(3), OUTSIDE);
        due("flip(-1)", x.flip(-1), OUTSIDE);
        x.cut(1);
        due("flip(1) behind a cut", x.flip(1), OUTSIDE);
    }

    private static void cut() {
        SensorTapes x = new SensorTapes();
        pushAll(x, "10110");
        due("cut(6)", x.cut(6), OUTSIDE);
        due("cut(-1)", x.cut(-1), OUTSIDE);
        due("cut(5)", x.cut(5), 0);
        due("cut(3)", x.cut(3), 2);
        dueTape("cut(3)", x, "101");
        due("cut(4)", x.cut(4), OUTSIDE);
        due("cut(0)", x.cut(0), 3);
        due("cut(0) again", x.cut(0), 0);
        due("cut(1) of nothing", x.cut(1), OUTSIDE);
    }

    private static void bit() {
        SensorTapes x = new SensorTapes();
        due("bit(-1) of nothing", x.bit(-1), 0);
        due("bit(0) of nothing", x.bit(0), NONE);
        pushAll(x, "011");
        dueTape("three", x, "011");
        due("bit(-2)", x.bit(-2), OUTSIDE);
    }

    private static void read() {
        SensorTapes x = ruled(4, 2, 2);
        due("read(65)", x.read(65), OUTSIDE);
        due("read(-1)", x.read(-1), OUTSIDE);
        addAll(x, 9, 9, 9, 9, 0, 15, 15);
        x.tape();
        x.clear();
        addAll(x, 1, 2);
        due("read(6)", x.read(6), FAULT);
        dueRow("read(6)", x, 1, 2);
        due("read(7)", x.read(7), 7);
        dueRow("read(7)", x, 9, 9, 9, 9, 0, 15, 15);
        due("the tape stays", x.bit(-1), 36);
        due("read(7): packed(-1)", x.packed(-1), 36);
        x.flip(15);
        // Block 1 is of code 1 then: folds 2 and 7, a head of way 3 and code 2, a bare sample of three bits.
        due("read(7) of code 1", x.read(7), FAULT);
        dueFault("read(7) of code 1", x, 1, 36, 4);
        dueRow("read(7) of code 1", x, 9, 9, 9, 9, 0, 15, 15);
    }

    private static void readNothing() {
        SensorTapes x = new SensorTapes();
        addAll(x, 4, 5);
        due("read(0) of nothing", x.read(0), 0);
        dueRow("read(0) of nothing", x);
        due("read(0) of nothing: packed(-1)", x.packed(-1), 0);
        x.push(0);
        x.add(3);
        due("read(0) of a bit", x.read(0), FAULT);
        dueFault("read(0) of a bit", x, 4, 0, 0);
        dueRow("read(0) of a bit", x, 3);
    }

    /** Written by any way and any code a row comes back, not only by the one that is chosen. */
    private static void readEveryCode() {
        SensorTapes x = ruled(4, 4, 1);
        pushAll(x, "10 1000 0011 0110 1100 1111");
        due("plainly by way 2", x.read(4), 4);
        // Told 3: t 3, fold 6 is 6. Told 9: t 6, fold 12 is 15. Told 15: t 0, fold 15 is 0.
        dueRow("plainly by way 2", x, 3, 6, 15, 0);
        x.cut(0);
        pushAll(x, "00 0000 0011");
        due("nothing by way 0", x.read(4), 4);
        dueRow("nothing by way 0", x, 3, 8, 8, 8);
        x.cut(0);
        pushAll(x, "11 0100 1101  1 101  01 000  1 001");
        due("k = 3 by way 3", x.read(4), 4);
        // Told 13: t 2, fold 5 is 10. Told 11: t 4, fold 8 is 15. Told 12: t 3, fold 1 is 11.
        dueRow("k = 3 by way 3", x, 13, 10, 15, 11);
        x.cut(0);
        pushAll(x, "01 0001 0000  0000000000000001 1 01");
        due("k = 0 with fifteen noughts", x.read(4), 4);
        dueRow("k = 0 with fifteen noughts", x, 0, 15, 15, 14);
    }

    private static void fault() {
        SensorTapes x = new SensorTapes();
        due("fault(-1)", x.fault(-1), OUTSIDE);
        due("fault(3)", x.fault(3), OUTSIDE);
        due("read(2) of nothing", x.read(2), FAULT);
        dueFault("read(2) of nothing", x, 1, 0, 0);
        due("fault(3) then", x.fault(3), OUTSIDE);
    }

    private static void faultOfMissingBits() {
        String all = "01 0010 0101  1 0  001 1  01 1000 0000 0000 0001  11 0000 1111";
        String bits = all.replace(" ", "");
        // How many samples are read of each beginning; a bare one as soon as it is whole.
        int[] ends = {10, 12, 16, 26, 30, 34};
        for (int length = 0; length < bits.length(); length++) {
            int samples = 0;
            for (int end : ends) {
                samples += end <= length ? 1 : 0;
            }
            dueFaultOf(bits.substring(0, length), ruled(4, 3, 2), 9, 1, length, samples);
        }
        SensorTapes x = ruled(4, 3, 2);
        pushAll(x, all);
        due("read(9) of all", x.read(9), 9);
        due("read(9) of all: sample(8)", x.sample(8), 15);
        SensorTapes small = ruled(2, 4, 8);
        // A head of code 0 gives its whole block; that which follows has no head.
        dueFaultOf("01 0000 10", small, 5, 1, 8, 4);
        dueFaultOf("01 0000 10 00 0000", small, 9, 1, 14, 8);
        dueFaultOf("01 0000 10 00 00", small, 9, 1, 12, 4);
        dueFaultOf("01 0000 1", small, 4, 1, 7, 0);
    }

    private static void faultOfCodes() {
        for (int width = 2; width <= 8; width++) {
            for (int code = 0; code < 16; code++) {
                SensorTapes x = ruled(width, 1, 1);
                x.add(0);
                x.tape();
                String head = "11" + Integer.toBinaryString(16 + code).substring(1);
                pushAll(x, head + "11111111".substring(0, width));
                boolean fits = code == 0 || code == 8 || code <= 7 && code - 1 < width;
                String when = "width " + width + ", code " + code;
                due(when, x.read(2), fits ? 2 : FAULT);
                if (fits) {
                    dueFault(when, x, 0, NONE, NONE);
                } else {
                    dueFault(when, x, 2, 6 + width, 1);
                }
            }
        }
        SensorTapes x = ruled(4, 1, 1);
        // While a bit of the head is not there that is the fault, whatever the code would be.
        dueFaultOf("00 111", x, 1, 1, 5, 0);
        // The code comes before the bare sample, which is not there.
        dueFaultOf("00 1111", x, 1, 2, 0, 0);
    }

    private static void faultOfFolds() {
        SensorTapes x = ruled(2, 3, 1);
        // TOP is 3; k = 0: a fourth nought is too many; k = 1: a second one.
        dueFaultOf("01 0001 10 0000", x, 3, 3, 8, 1);
        dueFaultOf("01 0001 10 000", x, 3, 1, 11, 1);
        dueFaultOf("01 0001 10 00001111", x, 3, 3, 8, 1);
        dueFaultOf("01 0001 10 1 0000", x, 3, 3, 9, 2);
        dueFaultOf("01 0010 10 00", x, 3, 3, 8, 1);
        dueFaultOf("01 0010 10 0", x, 3, 1, 9, 1);
        dueFaultOf("01 0010 10 01", x, 3, 1, 10, 1);
        dueFaultOf("01 0010 10 011 00", x, 3, 3, 11, 2);
        SensorTapes wide = ruled(8, 2, 1);
        // k = 6: three noughts are the most.
        dueFaultOf("01 0111 00000000 0000", wide, 2, 3, 14, 1);
        dueFaultOf("01 0111 00000000 000", wide, 2, 1, 17, 1);
        dueFaultOf("01 0111 00000000 0001 11111", wide, 2, 1, 23, 1);
        wide.push(1);
        due("k = 6, fold 255", wide.read(2), 2);
        due("k = 6, fold 255: sample(1)", wide.sample(1), 255);
    }

    private static void faultOfBitsLeft() {
        SensorTapes x = ruled(2, 2, 2);
        dueFaultOf("01 0000 10 1", x, 2, 4, 8, 2);
        dueFaultOf("01 0000 10 1", x, 1, 4, 8, 1);
        dueFaultOf("01 0000 10 01 1000 00 1 0", x, 3, 4, 16, 3);
        dueFaultOf("01 0000 10 01 1000 00 1", x, 3, 4, 16, 3);
        dueFaultOf("01 0000 10 01 1000 00 1", x, 4, 1, 17, 3);
    }

    private static void faultStaysOrGoes() {
        SensorTapes x = ruled(2, 2, 2);
        dueFaultOf("01 0000 10 1", x, 2, 4, 8, 2);
        due("read(65)", x.read(65), OUTSIDE);
        dueFault("read(65)", x, 4, 8, 2);
        x.cut(8);
        x.add(1);
        x.rule(0, 3);
        x.clear();
        x.tape();
        x.rule(0, 2);
        dueFault("other calls", x, 4, 8, 2);
        pushAll(x, "01 0000 10");
        due("read(2)", x.read(2), 2);
        dueFault("read(2)", x, 0, NONE, NONE);
        due("read(-1)", x.read(-1), OUTSIDE);
        dueFault("read(-1)", x, 0, NONE, NONE);
    }

    private static void image() {
        SensorTapes x = ruled(4, 2, 2);
        due("image(2)", x.image(2), OUTSIDE);
        due("image(-1)", x.image(-1), OUTSIDE);
        due("count(9) of none", x.count(9), 0);
        addAll(x, 1, 2, 3);
        due("image(1)", x.image(1), 1);
        due("count(9) of 1", x.count(9), 2);
        due("restore(0) of 1", x.restore(0), STATE);
        x.add(4);
        due("image(0)", x.image(0), 1);
        due("count(9) of both", x.count(9), 3);
        x.add(5);
        due("image(1) in its place", x.image(1), 1);
        x.clear();
        x.restore(0);
        dueRow("restore(0)", x, 1, 2, 3, 4);
        x.restore(1);
        dueRow("restore(1)", x, 1, 2, 3, 4, 5);
        due("count(9) restored", x.count(9), 3);
    }

    private static void restore() {
        SensorTapes x = ruled(3, 2, 3);
        due("restore(2)", x.restore(2), OUTSIDE);
        due("restore(-1)", x.restore(-1), OUTSIDE);
        due("restore(0)", x.restore(0), STATE);
        addAll(x, 7, 6, 5);
        x.tape();
        int bits = x.bit(-1);
        due("a fault to keep", x.read(2), FAULT);
        int place = x.fault(1);
        due("image(0)", x.image(0), 1);
        x.clear();
        x.rule(0, 8);
        x.rule(1, 7);
        x.rule(2, 5);
        addAll(x, 200, 100);
        due("packed(-1) between", x.packed(-1) > 0 ? 1 : 0, 1);
        x.cut(0);
        x.read(0);
        x.clear();
        x.push(1);
        for (int time = 0; time < 2; time++) {
            due("restore(0)", x.restore(0), 1);
            dueRow("restored", x, 7, 6, 5);
            due("restored: count(5)", x.count(5), 3);
            due("restored: count(6)", x.count(6), 2);
            due("restored: count(7)", x.count(7), 3);
            due("restored: packed(-1)", x.packed(-1), bits);
            due("restored: bit(-1)", x.bit(-1), bits);
            for (int i = 0; i < bits; i++) {
                due("restored: bit(" + i + ")", x.bit(i), x.packed(i));
            }
            dueFault("restored", x, 4, place, 2);
            x.flip(0);
            x.add(1);
            x.read(64);
        }
    }

    private static void count() {
        SensorTapes x = ruled(4, 2, 2);
        addAll(x, 9, 9, 9, 9, 0, 15, 15);
        pushAll(x, "101");
        x.image(1);
        int[] answers = {7, 4, 2, 36, 3, 4, 2, 2, 3, 2};
        for (int what = 0; what < answers.length; what++) {
            due("count(" + what + ")", x.count(what), answers[what]);
        }
        due("count(-1)", x.count(-1), OUTSIDE);
        due("count(10)", x.count(10), OUTSIDE);
        x.add(15);
        due("a sample more: count(1)", x.count(1), 4);
        due("a sample more: count(2)", x.count(2), 2);
        x.add(15);
        due("two more: count(1)", x.count(1), 5);
        due("two more: count(2)", x.count(2), 3);
        due("two more: count(8)", x.count(8), 4);
        x.add(0);
        due("three more: count(8)", x.count(8), 3);
    }

    private static void farNumbers() {
        SensorTapes x = new SensorTapes();
        addAll(x, 1, 2, 3);
        x.tape();
        for (int far : FAR) {
            boolean below = far < 0;
            due("rule(" + far + ", 4)", x.rule(far, 4), OUTSIDE);
            due("rule(0, " + far + ")", x.rule(0, far), OUTSIDE);
            due("add(" + far + ")", x.add(far), OUTSIDE);
            due("sample(" + far + ")", x.sample(far), NONE);
            due("ahead(" + far + ", 0, 0)", x.ahead(far, 0, 0), NONE);
            due("ahead(1, " + far + ", 0)", x.ahead(1, far, 0), OUTSIDE);
            due("ahead(1, 0, " + far + ")", x.ahead(1, 0, far), OUTSIDE);
            due("cost(" + far + ", 0, 8)", x.cost(far, 0, 8), NONE);
            due("cost(0, " + far + ", 8)", x.cost(0, far, 8), OUTSIDE);
            due("cost(0, 0, " + far + ")", x.cost(0, 0, far), OUTSIDE);
            due("block(" + far + ", 0)", x.block(far, 0), NONE);
            due("block(0, " + far + ")", x.block(0, far), OUTSIDE);
            due("packed(" + far + ")", x.packed(far), below ? OUTSIDE : NONE);
            due("lost(" + far + ")", x.lost(far), NONE);
            due("push(" + far + ")", x.push(far), OUTSIDE);
            due("flip(" + far + ")", x.flip(far), OUTSIDE);
            due("cut(" + far + ")", x.cut(far), OUTSIDE);
            due("bit(" + far + ")", x.bit(far), below ? OUTSIDE : NONE);
            due("read(" + far + ")", x.read(far), OUTSIDE);
            due("fault(" + far + ")", x.fault(far), OUTSIDE);
            due("image(" + far + ")", x.image(far), OUTSIDE);
            due("restore(" + far + ")", x.restore(far), OUTSIDE);
            due("count(" + far + ")", x.count(far), OUTSIDE);
        }
        dueRow("far numbers change nothing", x, 1, 2, 3);
    }

    private static void refusedInOrder() {
        SensorTapes x = new SensorTapes();
        due("block(9, 6): OUTSIDE before NONE", x.block(9, 6), OUTSIDE);
        due("cost(9, 0, 9): OUTSIDE before NONE", x.cost(9, 0, 9), OUTSIDE);
        due("ahead(9, 4, 0): OUTSIDE before NONE", x.ahead(9, 4, 0), OUTSIDE);
        x.add(255);
        due("rule(0, 9): OUTSIDE before STATE", x.rule(0, 9), OUTSIDE);
        due("rule(0, 2): STATE", x.rule(0, 2), STATE);
        due("rule(3, 2): OUTSIDE before STATE", x.rule(3, 2), OUTSIDE);
    }

    /** The most bits that 64 samples want fit on the tape, and come back. */
    private static void longestRows() {
        for (int size = 1; size <= 8; size++) {
            for (int every = 1; every <= 8; every++) {
                SensorTapes x = ruled(8, size, every);
                int[] samples = new int[64];
                for (int i = 0; i < 64; i++) {
                    samples[i] = i * i * 89 + i * 57 & 255;
                    x.add(samples[i]);
                }
                String when = "size " + size + ", every " + every;
                int bits = x.packed(-1);
                due(when + ": tape()", x.tape(), bits);
                x.clear();
                due(when + ": read(64)", x.read(64), 64);
                dueRow(when, x, samples);
                due(when + ": packed again", x.packed(-1), bits);
            }
        }
        SensorTapes bare = ruled(8, 1, 1);
        for (int i = 0; i < 64; i++) {
            bare.add(255 - i);
        }
        due("64 bare ones", bare.tape(), 64 * 14);
        due("64 blocks", bare.count(1), 64);
        due("64 segments", bare.count(2), 64);
        due("64 of nothing", bare.count(8), 64);
        due("the last block's first bit", bare.block(63, 4), 63 * 14);
        due("the last block's segment", bare.block(63, 5), 63);
        due("no block 64", bare.block(64, 0), NONE);
    }
}
