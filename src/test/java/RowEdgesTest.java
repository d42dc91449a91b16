/** The boundary cases of the promises 1 to 6, and of part 1 of the terms: rules, THE ROW, what is TOLD AHEAD. */
public final class RowEdgesTest {
    private static final Edges edges = new Edges();

    public static void main(String[] args) {
        newObject();
        objectsShareNothing();
        ruleNumbers();
        ruleStates();
        widthAndTop();
        add();
        addFull();
        clear();
        sample();
        aheadNumbers();
        aheadOfBareOnes();
        aheadWithoutB();
        toldByWays();
        folds();
        blocksAndSegments();
        edges.end();
    }

    private static void edge(String title, String... parts) {
        edges.edge(title, parts);
    }

    private static void newObject() {
        edge("1: THE ROW is empty", "count(0) = 0 count(1) = 0 count(2) = 0 count(3) = 0 count(8) = 0");
        edge("1: THE ROW is empty, no SAMPLE", "sample(0) = NONE ahead(0, 0, 0) = NONE clear() = 0");
        edge("1: THE ROW is empty, no BLOCK", "block(0, 0) = NONE cost(0, 0, 0) = NONE lost(0) = NONE");
        edge("1: THE ROW is empty, nothing PACKED", "packed(-1) = 0 packed(0) = NONE tape() = 0");
        edge("1: THE TAPE is empty", "count(4) = 0 bit(-1) = 0 bit(0) = NONE flip(0) = OUTSIDE");
        edge("1: no FAULT was told", "fault(0) = 0 fault(1) = NONE fault(2) = NONE");
        edge("1: no IMAGE is kept", "count(9) = 0 restore(0) = STATE restore(1) = STATE");
        edge("1: WIDTH is 8 at first", "count(5) = 8 add(255) = 1 add(256) = OUTSIDE rule(0, 8) = 8");
        edge("1: SIZE is 8 at first", "count(6) = 8", Edges.times(8, "add(0)"), "count(1) = 1 add(0) = 9 count(1) = 2",
            "rule(1, 8) = 8");
        edge("1: EVERY is 4 at first", "count(7) = 4", Edges.times(32, "add(0)"),
            "count(2) = 1 add(0) = 33 count(2) = 2 rule(2, 4) = 4");
    }

    private static void objectsShareNothing() {
        SensorTapes one = new SensorTapes();
        SensorTapes other = new SensorTapes();
        one.rule(0, 4);
        one.add(9);
        one.tape();
        one.read(5);
        one.image(1);
        int[] counts = {0, 0, 0, 0, 0, 8, 8, 4, 0, 0};
        for (int what = 0; what < counts.length; what++) {
            edges.due("1: objects share nothing: count(" + what + ")", other.count(what), counts[what]);
        }
        edges.due("1: objects share nothing: fault(0)", other.fault(0), 0);
        edges.due("1: objects share nothing: restore(1)", other.restore(1), -3);
    }

    private static void ruleNumbers() {
        String[] names = {"WIDTH", "SIZE", "EVERY"};
        int[] least = {2, 1, 1};
        int[] first = {8, 8, 4};
        for (int what = 0; what < 3; what++) {
            String rule = "rule(" + what + ", ";
            String count = " count(" + (what + 5) + ") = ";
            String stays = count + first[what];
            edge("2: " + names[what] + " least", rule + least[what] + ") = " + first[what] + count + least[what]);
            edge("2: " + names[what] + " greatest", rule + "8) = " + first[what] + count + 8);
            edge("2: " + names[what] + " too small", rule + (least[what] - 1) + ") = OUTSIDE" + stays);
            edge("2: " + names[what] + " too large", rule + "9) = OUTSIDE" + stays);
            edge("2: " + names[what] + " minus its least", rule + -least[what] + ") = OUTSIDE" + stays);
            edge("2: " + names[what] + " the least int", rule + "LEAST) = OUTSIDE" + stays);
            edge("2: " + names[what] + " the greatest int", rule + "GREATEST) = OUTSIDE" + stays);
            edge("2: " + names[what] + " answers which it was", rule + "3) = " + first[what], rule + "5) = 3",
                rule + "5) = 5", count + "5");
        }
        edge("2: WIDTH 0", "rule(0, 0) = OUTSIDE count(5) = 8");
        edge("2: what -1", "rule(-1, 4) = OUTSIDE");
        edge("2: what 3", "rule(3, 4) = OUTSIDE");
        edge("2: what the least int", "rule(LEAST, 4) = OUTSIDE");
        edge("2: what the greatest int", "rule(GREATEST, 4) = OUTSIDE");
        edge("2: both wrong", "rule(3, 9) = OUTSIDE rule(-1, 0) = OUTSIDE rule(GREATEST, LEAST) = OUTSIDE");
        edge("2: a rule changes no other", "rule(0, 7) = 8 rule(1, 6) = 8 rule(2, 5) = 4",
            "count(5) = 7 count(6) = 6 count(7) = 5");
    }

    private static void ruleStates() {
        for (int width = 2; width < 8; width++) {
            int top = (1 << width) - 1;
            String rule = "rule(0, " + width + ")";
            edge("2: WIDTH " + width + ", a SAMPLE is TOP", Edges.adds(top), rule + " = 8 count(5) = " + width);
            edge("2: WIDTH " + width + ", a SAMPLE is above TOP by 1", Edges.adds(top + 1), rule + " = STATE count(5) = 8");
        }
        edge("2: STATE by the first SAMPLE", Edges.adds(16), Edges.times(63, "add(0)"), "rule(0, 4) = STATE");
        edge("2: STATE by the last SAMPLE of 64", Edges.times(63, "add(0)"), Edges.adds(16), "rule(0, 4) = STATE");
        edge("2: 64 SAMPLES are TOP", Edges.times(64, "add(15)"), "rule(0, 4) = 8");
        edge("2: STATE only for WIDTH", "add(255) rule(1, 1) = 8 rule(2, 1) = 4 rule(1, 8) = 1 rule(2, 8) = 1");
        edge("2: the WIDTH that is, SAMPLES at TOP", "rule(0, 3) = 8 add(7) rule(0, 3) = 3");
        edge("2: the WIDTH that is, above the next one", "rule(0, 3) = 8 add(7) rule(0, 2) = STATE rule(0, 8) = 3");
        edge("2: no STATE, THE ROW is empty", "rule(0, 2) = 8 rule(0, 8) = 2");
        edge("2: no STATE, THE ROW was emptied", "add(255) rule(0, 2) = STATE clear() = 1 rule(0, 2) = 8");
        edge("2: OUTSIDE ahead of STATE", "add(255) rule(0, 1) = OUTSIDE rule(0, 9) = OUTSIDE rule(3, 2) = OUTSIDE");
        edge("2: no STATE by SAMPLES on THE TAPE", "add(255) tape() = 14 clear() = 1 rule(0, 2) = 8 bit(-1) = 14");
    }

    private static void widthAndTop() {
        for (int width = 2; width <= 8; width++) {
            int top = (1 << width) - 1;
            edge("3: WIDTH " + width + ", TOP", "rule(0, " + width + ") = 8 add(" + top + ") = 1 sample(0) = " + top);
            edge("3: WIDTH " + width + ", TOP and 1", "rule(0, " + width + ") = 8 add(" + (top + 1) + ") = OUTSIDE count(0) = 0");
        }
        edge("3: TOP grows with WIDTH", "rule(0, 2) = 8 add(4) = OUTSIDE rule(0, 3) = 2 add(4) = 1");
    }

    private static void add() {
        edge("3: the least SAMPLE", "add(0) = 1 sample(0) = 0");
        edge("3: below 0", "add(-1) = OUTSIDE count(0) = 0");
        edge("3: below 0, not the first one", "add(7) = 1 add(-1) = OUTSIDE", Edges.dueRow(7));
        edge("3: the least int", "add(LEAST) = OUTSIDE");
        edge("3: the greatest int", "add(GREATEST) = OUTSIDE");
        edge("3: far outside by 2 to the power of 8", "add(256) = OUTSIDE add(512) = OUTSIDE add(-256) = OUTSIDE");
    }

    private static void addFull() {
        String full = Edges.times(63, "add(1)") + "add(2) = 64 ";
        edge("3: the 64th SAMPLE", full, "count(0) = 64 sample(63) = 2");
        edge("3: FULL", full, "add(0) = FULL add(255) = FULL count(0) = 64 sample(63) = 2 sample(64) = NONE");
        edge("3: OUTSIDE ahead of FULL, too large", full, "add(256) = OUTSIDE add(GREATEST) = OUTSIDE");
        edge("3: OUTSIDE ahead of FULL, too small", full, "add(-1) = OUTSIDE add(LEAST) = OUTSIDE");
        edge("3: FULL no more behind clear()", full, "add(0) = FULL clear() = 64 add(9) = 1", Edges.dueRow(9));
        edge("3: FULL, the 64 were read", Edges.rules(8, 8, 8), Edges.times(56, "push(0)"), "read(64) = 64 add(0) = FULL");
        edge("3: one more, 63 were read", Edges.rules(8, 8, 8), Edges.times(56, "push(0)"),
            "read(63) = 63 add(5) = 64 sample(63) = 5 add(0) = FULL");
        edge("3: FULL, the 64 were restored", full, "image(0) = 1 clear() = 64 restore(0) = 1 add(0) = FULL");
        edge("3: FULL, with every SIZE and EVERY", full,
            "rule(1, 1) rule(2, 1) add(0) = FULL rule(1, 8) rule(2, 8) add(0) = FULL");
    }

    private static void clear() {
        edge("4: of the empty ROW", "clear() = 0 count(0) = 0");
        edge("4: of one SAMPLE", "add(3) clear() = 1 count(0) = 0 sample(0) = NONE");
        edge("4: of the full ROW", Edges.times(64, "add(3)"), "clear() = 64 count(0) = 0 sample(63) = NONE");
        edge("4: twice", Edges.adds(1, 2), "clear() = 2 clear() = 0");
        edge("4: no BLOCK, no SEGMENT, nothing PACKED then", Edges.times(40, "add(3)"),
            "packed(-1) = 46 clear() = 40 count(1) = 0 count(2) = 0 count(3) = 0 count(8) = 0",
            "packed(-1) = 0 packed(0) = NONE block(0, 2) = NONE lost(0) = NONE");
        edge("4: all else stays", Edges.rules(4, 2, 3), Edges.adds(9, 9), "tape() = 10 read(5) = FAULT image(1) clear() = 2",
            Edges.dueTape("01 0000 1001"), Edges.dueFault(1, 10, 2), "count(5) = 4 count(6) = 2 count(7) = 3 count(9) = 2");
        edge("4: begins at 0 anew", Edges.adds(1, 2, 3), "clear() = 3 add(9) = 1 sample(0) = 9 sample(1) = NONE");
    }

    private static void sample() {
        edge("5: the first and the last one", Edges.adds(5, 6, 7), "sample(0) = 5 sample(2) = 7");
        edge("5: one behind the last", Edges.adds(5, 6, 7), "sample(3) = NONE");
        edge("5: i below 0", Edges.adds(5, 6, 7), "sample(-1) = NONE");
        edge("5: the least int", Edges.adds(5, 6, 7), "sample(LEAST) = NONE");
        edge("5: the greatest int", Edges.adds(5, 6, 7), "sample(GREATEST) = NONE");
        edge("5: of the empty ROW", "sample(0) = NONE sample(-1) = NONE sample(63) = NONE");
        edge("5: of the full ROW", Edges.times(63, "add(1)"), Edges.adds(2), "sample(63) = 2 sample(64) = NONE");
        edge("5: 0 and TOP", Edges.adds(0, 255), "sample(0) = 0 sample(1) = 255");
    }

    private static void aheadNumbers() {
        String two = Edges.adds(5, 6);
        edge("6: WAY 0 is the least", two, "ahead(1, 0, 0) = 128");
        edge("6: WAY 3 is the greatest", two, "ahead(1, 3, 0) = 5");
        edge("6: WAY -1", two, "ahead(1, -1, 0) = OUTSIDE");
        edge("6: WAY 4", two, "ahead(1, 4, 0) = OUTSIDE");
        edge("6: WAY the least int", two, "ahead(1, LEAST, 0) = OUTSIDE");
        edge("6: WAY the greatest int", two, "ahead(1, GREATEST, 0) = OUTSIDE");
        edge("6: what 0 and 1", two, "ahead(1, 1, 0) = 5 ahead(1, 1, 1) = 2");
        edge("6: what -1", two, "ahead(1, 1, -1) = OUTSIDE");
        edge("6: what 2", two, "ahead(1, 1, 2) = OUTSIDE");
        edge("6: what the least int", two, "ahead(1, 1, LEAST) = OUTSIDE");
        edge("6: what the greatest int", two, "ahead(1, 1, GREATEST) = OUTSIDE");
        edge("6: the last SAMPLE", two, "ahead(1, 1, 0) = 5");
        edge("6: one behind the last", two, "ahead(2, 1, 0) = NONE ahead(2, 1, 1) = NONE");
        edge("6: i below 0", two, "ahead(-1, 1, 0) = NONE ahead(-1, 1, 1) = NONE");
        edge("6: i the least int", two, "ahead(LEAST, 1, 0) = NONE ahead(LEAST, 1, 1) = NONE");
        edge("6: i the greatest int", two, "ahead(GREATEST, 1, 0) = NONE ahead(GREATEST, 1, 1) = NONE");
        edge("6: of the empty ROW", "ahead(0, 1, 0) = NONE ahead(1, 1, 0) = NONE");
        edge("6: OUTSIDE ahead of NONE, no such SAMPLE", two, "ahead(2, 4, 0) = OUTSIDE ahead(2, 0, 2) = OUTSIDE");
        edge("6: OUTSIDE ahead of NONE, i below 0", two, "ahead(-1, -1, 0) = OUTSIDE ahead(-1, 0, -1) = OUTSIDE");
        edge("6: OUTSIDE ahead of NONE, a BARE one", two, "ahead(0, 4, 1) = OUTSIDE ahead(0, 3, 2) = OUTSIDE");
        edge("6: of the full ROW", Edges.times(63, "add(1)"),
            "add(4) = 64 ahead(63, 1, 0) = 1 ahead(63, 1, 1) = 4 ahead(64, 1, 0) = NONE");
    }

    private static void aheadOfBareOnes() {
        String full = Edges.times(64, "add(3)");
        edge("6: SAMPLE 0 is BARE", Edges.adds(5), "ahead(0, 0, 0) = NONE ahead(0, 0, 1) = NONE");
        edge("6: a SEGMENT of 32", full, "ahead(31, 1, 0) = 3 ahead(32, 1, 0) = NONE ahead(33, 1, 0) = 3");
        edge("6: a SEGMENT of 1", full, "rule(1, 1) rule(2, 1) ahead(1, 1, 0) = NONE ahead(63, 1, 0) = NONE");
        edge("6: a SEGMENT of 2, SIZE 1", full,
            "rule(1, 1) rule(2, 2) ahead(1, 1, 0) = 3 ahead(2, 1, 0) = NONE ahead(63, 1, 0) = 3");
        edge("6: a SEGMENT of 2, EVERY 1", full,
            "rule(1, 2) rule(2, 1) ahead(1, 1, 0) = 3 ahead(2, 1, 0) = NONE ahead(63, 1, 0) = 3");
        edge("6: a SEGMENT of 8, SIZE 1", full,
            "rule(1, 1) rule(2, 8) ahead(7, 1, 0) = 3 ahead(8, 1, 0) = NONE ahead(56, 1, 0) = NONE");
        edge("6: a SEGMENT of 8, EVERY 1", full,
            "rule(1, 8) rule(2, 1) ahead(7, 1, 0) = 3 ahead(8, 1, 0) = NONE ahead(56, 1, 0) = NONE");
        edge("6: a SEGMENT of 63", full, "rule(1, 7) rule(2, 8) ahead(55, 1, 0) = 3 ahead(56, 1, 0) = NONE ahead(57, 1, 0) = 3");
        edge("6: a SEGMENT of 64", full, "rule(1, 8) rule(2, 8) ahead(1, 1, 0) = 3 ahead(32, 1, 0) = 3 ahead(63, 1, 0) = 3");
        edge("6: the first of a BLOCK only is not BARE", full, "rule(1, 2) rule(2, 2) ahead(2, 1, 0) = 3 ahead(4, 1, 0) = NONE");
    }

    /** With samples that rise by 10 WAY 2 tells 10 more than a, if b is there, or a. */
    private static void aheadWithoutB() {
        String rising = Edges.rules(8, 3, 2) + Edges.adds(10, 20, 30, 40, 50, 60, 70, 80, 90);
        edge("6: SAMPLE 1 has no b", rising, "ahead(1, 2, 0) = 10 ahead(1, 3, 0) = 10");
        edge("6: SAMPLE 2 has one", rising, "ahead(2, 2, 0) = 30 ahead(2, 3, 0) = 15");
        edge("6: a is of the BLOCK before", rising, "ahead(3, 1, 0) = 30");
        edge("6: a and b are of the BLOCK before", rising, "ahead(3, 2, 0) = 40 ahead(3, 3, 0) = 25");
        edge("6: b is of the BLOCK before", rising, "ahead(4, 2, 0) = 50 ahead(4, 3, 0) = 35");
        edge("6: the last SAMPLE of a SEGMENT", rising, "ahead(5, 2, 0) = 60 ahead(5, 3, 0) = 45");
        edge("6: b is of another SEGMENT", rising, "ahead(7, 2, 0) = 70 ahead(7, 3, 0) = 70");
        edge("6: b is the BARE one", rising, "ahead(8, 2, 0) = 90 ahead(8, 3, 0) = 75");
        edge("6: a new EVERY takes b away", rising,
            "rule(2, 1) = 2 ahead(3, 2, 0) = NONE ahead(4, 2, 0) = 40 ahead(5, 2, 0) = 60");
    }

    private static void toldByWays() {
        for (int width = 2; width <= 8; width++) {
            int half = 1 << width - 1;
            edge("6: WAY 0, WIDTH " + width, "rule(0, " + width + ")", Edges.adds(0, half), "ahead(1, 0, 0) = " + half,
                "ahead(1, 0, 1) = 0");
        }
        String four = "rule(0, 4) ";
        edge("6: WAY 1, a is 0", four, Edges.adds(0, 3), "ahead(1, 1, 0) = 0");
        edge("6: WAY 1, a is TOP", four, Edges.adds(15, 3), "ahead(1, 1, 0) = 15");
        edge("6: WAY 2, just 0", four, Edges.adds(10, 5, 0), "ahead(2, 2, 0) = 0");
        edge("6: WAY 2, 1", four, Edges.adds(9, 5, 0), "ahead(2, 2, 0) = 1");
        edge("6: WAY 2, below 0 by 1", four, Edges.adds(11, 5, 0), "ahead(2, 2, 0) = 0 ahead(2, 2, 1) = 0");
        edge("6: WAY 2, below 0 by TOP", four, Edges.adds(15, 0, 0), "ahead(2, 2, 0) = 0");
        edge("6: WAY 2, just TOP", four, Edges.adds(1, 8, 0), "ahead(2, 2, 0) = 15");
        edge("6: WAY 2, TOP less 1", four, Edges.adds(2, 8, 0), "ahead(2, 2, 0) = 14");
        edge("6: WAY 2, above TOP by 1", four, Edges.adds(0, 8, 15), "ahead(2, 2, 0) = 15 ahead(2, 2, 1) = 0");
        edge("6: WAY 2, above TOP by TOP", four, Edges.adds(0, 15, 0), "ahead(2, 2, 0) = 15 ahead(2, 2, 1) = 15");
        edge("6: WAY 2, above TOP of WIDTH 8", Edges.adds(0, 255, 0), "ahead(2, 2, 0) = 255");
        edge("6: WAY 3, 0 and 0", four, Edges.adds(0, 0, 0), "ahead(2, 3, 0) = 0");
        edge("6: WAY 3, 0 and 1 are cut", four, Edges.adds(0, 1, 0), "ahead(2, 3, 0) = 0");
        edge("6: WAY 3, 1 and 1", four, Edges.adds(1, 1, 0), "ahead(2, 3, 0) = 1");
        edge("6: WAY 3, TOP and TOP less 1 are cut", four, Edges.adds(15, 14, 0), "ahead(2, 3, 0) = 14");
        edge("6: WAY 3, TOP and TOP", Edges.adds(255, 255, 0), "ahead(2, 3, 0) = 255");
    }

    private static void folds() {
        for (int[] one : Edges.FOLDS) {
            edge("6: FOLD of " + one[1] + ", told " + one[0], "rule(0, 4)", Edges.adds(one[0], one[1]),
                "ahead(1, 1, 0) = " + one[0] + " ahead(1, 1, 1) = " + one[2]);
        }
        edge("6: FOLD, WIDTH 2, told 0", "rule(0, 2)", Edges.adds(0, 3), "ahead(1, 1, 1) = 3");
        edge("6: FOLD, WIDTH 2, told TOP", "rule(0, 2)", Edges.adds(3, 0), "ahead(1, 1, 1) = 3");
        edge("6: FOLD, WIDTH 8, told 0", Edges.adds(0, 255), "ahead(1, 1, 1) = 255");
        edge("6: FOLD, WIDTH 8, told TOP", Edges.adds(255, 0), "ahead(1, 1, 1) = 255");
        edge("6: FOLD, t goes with WIDTH", Edges.adds(5, 15), "ahead(1, 1, 1) = 15 rule(0, 4) = 8 ahead(1, 1, 1) = 15",
            "clear() = 2", Edges.adds(12, 6), "ahead(1, 1, 1) = 9 rule(0, 8) = 4 ahead(1, 1, 1) = 11");
    }

    /** For every SIZE and EVERY each number of SAMPLES, so each way in which a last BLOCK and SEGMENT can be left. */
    private static void blocksAndSegments() {
        edge("20: no BLOCK and no SEGMENT", "count(1) = 0 count(2) = 0");
        for (int size = 1; size <= 8; size++) {
            for (int every = 1; every <= 8; every++) {
                StringBuilder story = new StringBuilder(Edges.rules(8, size, every));
                int blocks = 0;
                int segments = 0;
                for (int n = 1; n <= 64; n++) {
                    boolean newBlock = (n - 1) % size == 0;
                    blocks += newBlock ? 1 : 0;
                    segments += newBlock && (blocks - 1) % every == 0 ? 1 : 0;
                    int inLast = n - (blocks - 1) * size;
                    story.append("add(9) = ").append(n).append(" count(1) = ").append(blocks)
                        .append(" count(2) = ").append(segments).append(" block(").append(blocks - 1)
                        .append(", 3) = ").append(inLast).append(" block(").append(blocks - 1)
                        .append(", 5) = ").append(segments - 1).append(" lost(").append(blocks - 1)
                        .append(") = ").append(inLast).append(' ');
                }
                edge("8, 10, 20: what is left, SIZE " + size + ", EVERY " + every, story.toString());
            }
        }
    }
}
