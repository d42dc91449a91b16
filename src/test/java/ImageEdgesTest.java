/** The boundary cases of the promises 18 to 20: IMAGES, count. */
public final class ImageEdgesTest {
    private static final Edges edges = new Edges();

    // WIDTH 4, SIZE 2, EVERY 3; 9 and 9; a TAPE of ten bits; FAULT 1 behind them.
    private static final String SOME = Edges.rules(4, 2, 3) + Edges.adds(9, 9) + "tape() = 10 read(5) = FAULT ";
    private static final String DUE_SOME = "count(5) = 4 count(6) = 2 count(7) = 3 " + Edges.dueRow(9, 9)
        + Edges.dueTape("01 0000 1001") + Edges.duePacked("01 0000 1001") + Edges.dueFault(1, 10, 2);
    private static final String DUE_NEW = "count(0) = 0 count(1) = 0 count(2) = 0 count(3) = 0 count(4) = 0 "
        + "count(5) = 8 count(6) = 8 count(7) = 4 count(8) = 0 sample(0) = NONE bit(0) = NONE packed(0) = NONE "
        + Edges.dueNoFault();
    private static final String CHANGE_ALL =
        "clear() rule(0, 8) rule(1, 5) rule(2, 7) cut(0) read(0) = 0 add(200) add(100) add(0) push(1) ";

    public static void main(String[] args) {
        imageNumbers();
        imageKeeps();
        restoreNumbers();
        restoreBrings();
        restoreLengths();
        countNumbers();
        countOfEmpty();
        countOfFull();
        countOfNothing();
        edges.end();
    }

    private static void edge(String title, String... parts) {
        edges.edge(title, parts);
    }

    private static void imageNumbers() {
        edge("18: IMAGE 0", "image(0) = 1 count(9) = 1");
        edge("18: IMAGE 1", "image(1) = 1 count(9) = 2");
        edge("18: k is -1", SOME, "image(-1) = OUTSIDE count(9) = 0");
        edge("18: k is 2", SOME, "image(2) = OUTSIDE count(9) = 0");
        edge("18: k the least int", SOME, "image(LEAST) = OUTSIDE count(9) = 0");
        edge("18: k the greatest int", SOME, "image(GREATEST) = OUTSIDE count(9) = 0");
        edge("18: k is 32 or 33, as shifts would wrap around", SOME,
            "image(32) = OUTSIDE image(33) = OUTSIDE image(-32) = OUTSIDE count(9) = 0");
        edge("18: OUTSIDE leaves what is kept", SOME, "image(0) = 1 image(1) = 1", CHANGE_ALL,
            "image(2) = OUTSIDE image(-1) = OUTSIDE",
            "restore(0) = 1", DUE_SOME, "restore(1) = 1", DUE_SOME);
    }

    private static void imageKeeps() {
        edge("18: all is as it was, behind image()", SOME, "image(0) = 1", DUE_SOME);
        edge("18: in place of what was kept there", Edges.adds(1), "image(0) = 1 add(2) image(0) = 1 clear() restore(0) = 1",
            Edges.dueRow(1, 2));
        edge("18: in place of it, a shorter ROW", Edges.adds(1, 2, 3),
            "image(0) = 1 clear() add(4) image(0) = 1 clear() restore(0) = 1",
            Edges.dueRow(4), "sample(1) = NONE");
        edge("18: in place of it, a shorter TAPE", Edges.bits("111"),
            "image(0) = 1 cut(0) push(0) image(0) = 1 cut(0) restore(0) = 1",
            Edges.dueTape("0"), "bit(1) = NONE");
        edge("18: the other IMAGE stays", Edges.adds(1), "image(0) = 1 add(2) image(1) = 1 restore(0) = 1", Edges.dueRow(1),
            "restore(1) = 1", Edges.dueRow(1, 2));
        edge("18: of a new object", "image(1) = 1", SOME, "restore(1) = 1", DUE_NEW);
        edge("18: no IMAGE is kept in an IMAGE",
            "image(0) = 1 count(9) = 1 image(1) = 1 restore(0) = 1 count(9) = 3 restore(1) = 1");
        edge("18: twice the same", SOME, "image(0) = 1 image(0) = 1 count(9) = 1", CHANGE_ALL, "restore(0) = 1", DUE_SOME);
    }

    private static void restoreNumbers() {
        String both = SOME + "image(0) = 1 image(1) = 1 ";
        edge("19: k is -1", both, "restore(-1) = OUTSIDE", DUE_SOME);
        edge("19: k is 2", both, "restore(2) = OUTSIDE", DUE_SOME);
        edge("19: k the least int", both, "restore(LEAST) = OUTSIDE");
        edge("19: k the greatest int", both, "restore(GREATEST) = OUTSIDE");
        edge("19: k is 32 or 33, as shifts would wrap around", both,
            "restore(32) = OUTSIDE restore(33) = OUTSIDE restore(-32) = OUTSIDE");
        edge("19: STATE, nothing was kept", SOME, "restore(0) = STATE restore(1) = STATE", DUE_SOME);
        edge("19: STATE, only IMAGE 0 was kept", SOME, "image(0) = 1 restore(1) = STATE restore(0) = 1");
        edge("19: STATE, only IMAGE 1 was kept", SOME, "image(1) = 1 restore(0) = STATE restore(1) = 1");
        edge("19: STATE, an image() was refused", SOME, "image(2) = OUTSIDE restore(0) = STATE restore(1) = STATE");
        edge("19: OUTSIDE ahead of STATE", SOME, "restore(2) = OUTSIDE restore(-1) = OUTSIDE");
    }

    private static void restoreBrings() {
        edge("19: all but IMAGES", SOME, "image(0) = 1", CHANGE_ALL, "image(1) = 1 restore(0) = 1", DUE_SOME, "count(9) = 3");
        edge("19: the IMAGE stays", SOME, "image(0) = 1", CHANGE_ALL, "restore(0) = 1", CHANGE_ALL, "restore(0) = 1", DUE_SOME,
            "count(9) = 1");
        edge("19: the IMAGE stays, SAMPLES and bits more", SOME,
            "image(0) = 1 restore(0) = 1 add(1) = 3 flip(0) = 1 push(1) = 11 restore(0) = 1", DUE_SOME);
        edge("19: right behind image()", SOME, "image(1) = 1 restore(1) = 1", DUE_SOME);
        edge("19: no FAULT in place of one", "image(0) = 1 read(1) = FAULT", Edges.dueFault(1, 0, 0), "restore(0) = 1",
            Edges.dueNoFault());
        edge("19: a FAULT in place of none", "read(1) = FAULT image(0) = 1 read(0) = 0", Edges.dueNoFault(), "restore(0) = 1",
            Edges.dueFault(1, 0, 0));
        edge("19: a WIDTH that SAMPLES are above now",
            "rule(0, 2) image(0) = 1 rule(0, 8) add(255) rule(0, 2) = STATE restore(0) = 1",
            "count(5) = 2 count(0) = 0 add(4) = OUTSIDE");
        edge("19: SAMPLES above the TOP that is now",
            "add(255) image(0) = 1 clear() rule(0, 2) restore(0) = 1 count(5) = 8 sample(0) = 255 add(255) = 2");
        edge("19: goes on from there", SOME, "image(0) = 1", CHANGE_ALL,
            "restore(0) = 1 add(15) = 3 add(16) = OUTSIDE push(0) = 11 count(1) = 2");
    }

    private static void restoreLengths() {
        edge("19: the empty ROW and TAPE", "image(0) = 1", Edges.adds(1, 2), Edges.bits("10"),
            "restore(0) = 1 count(0) = 0 bit(-1) = 0 sample(0) = NONE bit(0) = NONE");
        edge("19: the full ROW", Edges.times(63, "add(1)"), "add(2) image(0) = 1 clear() = 64 add(7) restore(0) = 1",
            "count(0) = 64 sample(0) = 1 sample(63) = 2 sample(64) = NONE add(0) = FULL");
        edge("19: the full TAPE", "rule(1, 1) rule(2, 1)", Edges.times(64, "add(0)"), "tape() = 896", Edges.times(103, "push(0)"),
            "push(1) = 1000 image(1) = 1 cut(0) = 1000 push(1) restore(1) = 1",
            "bit(-1) = 1000 bit(0) = 0 bit(999) = 1 bit(1000) = NONE push(0) = FULL");
        edge("19: one SAMPLE in place of the full ROW", Edges.adds(5), "image(0) = 1", Edges.times(63, "add(1)"),
            "add(0) = FULL restore(0) = 1",
            Edges.dueRow(5), "sample(1) = NONE add(0) = 2");
        edge("19: one bit in place of many", Edges.bits("1"), "image(0) = 1", Edges.bits("0000"), "restore(0) = 1",
            Edges.dueTape("1"), "bit(1) = NONE push(1) = 2");
    }

    private static void countNumbers() {
        edge("20: what -1", SOME, "count(-1) = OUTSIDE");
        edge("20: what 10", SOME, "count(10) = OUTSIDE");
        edge("20: what the least int", SOME, "count(LEAST) = OUTSIDE");
        edge("20: what the greatest int", SOME, "count(GREATEST) = OUTSIDE");
        edge("20: what 0 is the least", SOME, "count(0) = 2");
        edge("20: what 9 is the greatest", SOME, "image(1) count(9) = 2");
        edge("20: IMAGES, none", "count(9) = 0");
        edge("20: IMAGES, both", "image(1) image(0) count(9) = 3");
        edge("20: OUTSIDE of a new object", "count(-1) = OUTSIDE count(10) = OUTSIDE");
    }

    private static void countOfEmpty() {
        int[] answers = {0, 0, 0, 0, 0, 8, 8, 4, 0, 0};
        for (int what = 0; what <= 9; what++) {
            edge("20: what " + what + ", the empty ROW and TAPE", "count(" + what + ") = " + answers[what]);
        }
    }

    private static void countOfFull() {
        String full = "rule(1, 1) rule(2, 1)" + Edges.times(64, "add(255)") + "tape() = 896 " + Edges.times(104,
        "push(1)") + "image(0) image(1) ";
        int[] answers = {64, 64, 64, 896, 1000, 8, 1, 1, 64, 3};
        for (int what = 0; what <= 9; what++) {
            edge("20: what " + what + ", the full ROW and TAPE", full, "count(" + what + ") = " + answers[what]);
        }
        edge("20: the greatest BLOCKS and SEGMENTS", "rule(1, 8) rule(2, 8)", Edges.times(64, "add(255)"),
            "count(1) = 8 count(2) = 1");
        edge("20: one SAMPLE", "add(255) count(0) = 1 count(1) = 1 count(2) = 1 count(3) = 14 count(8) = 1");
    }

    private static void countOfNothing() {
        edge("20: CODE 0, none", Edges.rules(4, 2, 1), Edges.adds(0, 15, 0, 15), "count(1) = 2 count(8) = 0");
        edge("20: CODE 0, the last BLOCK alone", Edges.rules(4, 2, 1), Edges.adds(0, 15, 0),
            "count(8) = 1 add(15) = 4 count(8) = 0");
        edge("20: CODE 0, the first BLOCK alone", Edges.rules(4, 2, 1), Edges.adds(5, 5, 0, 15), "count(8) = 1");
        edge("20: CODE 0, all", Edges.rules(4, 2, 1), Edges.adds(5, 5, 8, 8), "count(8) = 2");
        edge("20: CODE 0, as rules are", Edges.rules(4, 2, 1), Edges.adds(5, 5, 0, 15),
            "count(8) = 1 rule(1, 1) count(8) = 4 rule(1, 4) count(8) = 0");
    }
}
