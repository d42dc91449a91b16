/** The boundary cases of the promises 7 to 10, and of part 2 of the terms: BLOCKS, THE CHOICE, PACKED. */
public final class BlockEdgesTest {
    private static final Edges edges = new Edges();
    private static final String FAR = "LEAST -1 GREATEST";

    public static void main(String[] args) {
        costNumbers();
        costOfNothing();
        costByWidth();
        costOfFolds();
        costOfBlocks();
        blockNumbers();
        blockAnswers();
        choiceOfEquals();
        choiceOfLeast();
        packedNumbers();
        packedBits();
        lost();
        asThingsAre();
        askingChangesNothing();
        edges.end();
    }

    private static void edge(String title, String... parts) {
        edges.edge(title, parts);
    }

    private static void costNumbers() {
        // BLOCK 0 is 5, 6; by WAY 0 (8 told) the FOLD is 3, by the others 2. BLOCK 1 is 7 alone.
        String three = Edges.rules(4, 2, 1) + Edges.adds(5, 6, 7);
        edge("7: WAY 0 is the least", three, "cost(0, 0, 1) = 14");
        edge("7: WAY 3 is the greatest", three, "cost(0, 3, 1) = 13");
        edge("7: WAY -1", three, "cost(0, -1, 1) = OUTSIDE");
        edge("7: WAY 4", three, "cost(0, 4, 1) = OUTSIDE");
        edge("7: WAY the least int", three, "cost(0, LEAST, 1) = OUTSIDE");
        edge("7: WAY the greatest int", three, "cost(0, GREATEST, 1) = OUTSIDE");
        edge("7: CODE 0 is the least", three, "cost(1, 1, 0) = 10");
        edge("7: CODE 8 is the greatest", three, "cost(0, 1, 8) = 14");
        edge("7: CODE -1", three, "cost(0, 1, -1) = OUTSIDE");
        edge("7: CODE 9", three, "cost(0, 1, 9) = OUTSIDE");
        edge("7: CODE 15, the greatest of four bits", three, "cost(0, 1, 15) = OUTSIDE cost(0, 1, 16) = OUTSIDE");
        edge("7: CODE the least int", three, "cost(0, 1, LEAST) = OUTSIDE");
        edge("7: CODE the greatest int", three, "cost(0, 1, GREATEST) = OUTSIDE");
        edge("7: the last BLOCK", three, "cost(1, 1, 8) = 10");
        edge("7: one behind the last", three, "cost(2, 1, 8) = NONE");
        edge("7: b below 0", three, "cost(-1, 1, 8) = NONE");
        edge("7: b the least int", three, "cost(LEAST, 1, 8) = NONE");
        edge("7: b the greatest int", three, "cost(GREATEST, 1, 8) = NONE");
        edge("7: of the empty ROW", "cost(0, 0, 0) = NONE cost(0, 3, 8) = NONE cost(-1, 0, 0) = NONE");
        edge("7: OUTSIDE ahead of NONE, no such BLOCK", three, "cost(2, 4, 8) = OUTSIDE cost(2, 0, 9) = OUTSIDE");
        edge("7: OUTSIDE ahead of NONE, b below 0", three, "cost(-1, -1, 8) = OUTSIDE cost(-1, 0, -1) = OUTSIDE");
        edge("7: OUTSIDE ahead of NONE, not to be written so", three, "cost(0, 1, 0) = NONE cost(0, 4, 0) = OUTSIDE",
            "cost(0, 1, 7) = NONE cost(0, -1, 7) = OUTSIDE");
        edge("7: OUTSIDE of the empty ROW", "cost(0, 4, 0) = OUTSIDE cost(0, 0, 9) = OUTSIDE");
        edge("7: the last one of 64 BLOCKS", "rule(1, 1)", Edges.times(64, "add(0)"), "cost(63, 1, 0) = 6 cost(64, 1, 0) = NONE");
    }

    private static void costOfNothing() {
        String rules = Edges.rules(4, 4, 2);
        edge("7: CODE 0, all FOLDS are 0", rules, Edges.adds(5, 5, 5, 5), "cost(0, 1, 0) = 10");
        edge("7: CODE 0, only by this WAY", rules, Edges.adds(5, 5, 5, 5), "cost(0, 1, 0) = 10 cost(0, 0, 0) = NONE");
        edge("7: CODE 0, the first FOLD is 1", rules, Edges.adds(5, 4, 4, 4), "ahead(1, 1, 1) = 1 cost(0, 1, 0) = NONE");
        edge("7: CODE 0, the last FOLD is 1", rules, Edges.adds(5, 5, 5, 4), "ahead(3, 1, 1) = 1 cost(0, 1, 0) = NONE");
        edge("7: CODE 0, there is no FOLD", rules, Edges.adds(5),
            "cost(0, 0, 0) = 10 cost(0, 1, 0) = 10 cost(0, 2, 0) = 10 cost(0, 3, 0) = 10");
        edge("7: CODE 0, none BARE", rules, Edges.adds(5, 5, 5, 5, 5), "cost(1, 1, 0) = 6");
        edge("7: CODE 0, none BARE, a FOLD is 1", rules, Edges.adds(5, 5, 5, 5, 4), "cost(1, 1, 0) = NONE");
        edge("7: CODE 0, a FOLD of the BLOCK before does not count", rules, Edges.adds(5, 5, 5, 4, 4), "cost(1, 1, 0) = 6");
        edge("7: CODE 0, a FOLD of the BLOCK behind does not count", rules, Edges.adds(5, 5, 5, 5, 4), "cost(0, 1, 0) = 10");
    }

    private static void costByWidth() {
        for (int width = 2; width <= 8; width++) {
            for (int code = 1; code <= 8; code++) {
                boolean fits = code == 8 || code <= width;
                int fold = code == 8 ? width : code;
                String cost = "cost(0, 1, " + code + ") = ";
                edge("7: WIDTH " + width + ", CODE " + code + ", a FOLD of 0", "rule(0, " + width + ")", Edges.adds(0, 0),
                    cost + (fits ? 6 + width + fold : "NONE"));
                edge("7: WIDTH " + width + ", CODE " + code + ", no FOLD", "rule(0, " + width + ")", Edges.adds(0),
                    cost + (fits ? 6 + width : "NONE"));
            }
        }
    }

    /** Told 0 by WAY 1, so that each FOLD is the SAMPLE. */
    private static void costOfFolds() {
        int[][] all = {{1, 1, 2}, {1, 15, 16}, {2, 1, 2}, {2, 2, 3}, {2, 15, 9}, {3, 3, 3}, {3, 4, 4}, {3, 15, 6},
            {4, 7, 4}, {4, 8, 5}, {4, 15, 5}, {8, 1, 4}, {8, 15, 4}};
        for (int[] one : all) {
            edge("7: WIDTH 4, CODE " + one[0] + ", a FOLD of " + one[1], "rule(0, 4)", Edges.adds(0, one[1]),
                "cost(0, 1, " + one[0] + ") = " + (10 + one[2]));
        }
        int[][] wide = {{1, 255, 256}, {2, 255, 129}, {6, 31, 6}, {6, 32, 7}, {7, 63, 7}, {7, 64, 8}, {7, 255, 10}, {8, 255, 8}};
        for (int[] one : wide) {
            edge("7: WIDTH 8, CODE " + one[0] + ", a FOLD of " + one[1], Edges.adds(0, one[1]),
                "cost(0, 1, " + one[0] + ") = " + (14 + one[2]));
        }
        edge("7: more than THE TAPE has room for", Edges.times(8, "add(0) add(255)"),
            "cost(0, 1, 1) = 1806 cost(1, 1, 1) = 2054");
    }

    private static void costOfBlocks() {
        edge("7: BARE or not", Edges.rules(4, 1, 2), Edges.adds(5, 5, 5),
            "cost(0, 1, 1) = 10 cost(1, 1, 1) = 7 cost(2, 1, 1) = 10");
        edge("7: the last BLOCK has one left, not BARE", Edges.times(9, "add(7)"), "cost(1, 1, 8) = 14 cost(1, 1, 1) = 7");
        edge("7: the last BLOCK has one left, BARE", "rule(2, 1)", Edges.times(9, "add(7)"),
            "cost(1, 1, 8) = 14 cost(1, 1, 1) = 14");
        edge("7: the last BLOCK is whole", Edges.times(16, "add(7)"), "cost(1, 1, 8) = 70 cost(2, 1, 8) = NONE");
        edge("7: the last BLOCK lacks one", Edges.times(15, "add(7)"), "cost(1, 1, 8) = 62");
    }

    private static void blockNumbers() {
        String three = Edges.rules(4, 2, 1) + Edges.adds(5, 5, 7);
        int[] first = {1, 0, 10, 2, 0, 0};
        int[] last = {0, 0, 10, 1, 10, 1};
        for (int what = 0; what <= 5; what++) {
            String end = ", " + what + ") = ";
            edge("8: what " + what + ", BLOCK 0", three, "block(0" + end + first[what]);
            edge("8: what " + what + ", the last BLOCK", three, "block(1" + end + last[what]);
            edge("8: what " + what + ", one behind the last", three, "block(2" + end + "NONE");
            for (String b : FAR.split(" ")) {
                edge("8: what " + what + ", b " + b, three, "block(" + b + end + "NONE");
            }
            edge("8: what " + what + ", the empty ROW", "block(0" + end + "NONE");
        }
        for (String what : new String[] {"-1", "6", "LEAST", "GREATEST"}) {
            edge("8: what " + what, three, "block(0, " + what + ") = OUTSIDE block(1, " + what + ") = OUTSIDE");
            edge("8: OUTSIDE ahead of NONE, what " + what, three,
                "block(2, " + what + ") = OUTSIDE block(-1, " + what + ") = OUTSIDE");
            edge("8: the empty ROW, what " + what, "block(0, " + what + ") = OUTSIDE");
        }
    }

    private static void blockAnswers() {
        String full = Edges.times(64, "add(3)");
        edge("8: SIZE 8, the last BLOCK is whole", Edges.times(8, "add(3)"), "block(0, 3) = 8 block(1, 3) = NONE");
        edge("8: SIZE 8, the last BLOCK has 1", Edges.times(9, "add(3)"), "block(0, 3) = 8 block(1, 3) = 1");
        edge("8: SIZE 8, the only BLOCK has 1", "add(3) block(0, 3) = 1");
        edge("8: SIZE 1, 64 BLOCKS", full, "rule(1, 1) block(0, 3) = 1 block(63, 3) = 1 block(64, 3) = NONE");
        edge("8: SIZE 7 leaves 1 of 64", full, "rule(1, 7) block(8, 3) = 7 block(9, 3) = 1 block(10, 3) = NONE");
        edge("8: SIZE 5 leaves 4 of 64", full, "rule(1, 5) block(12, 3) = 4 block(13, 3) = NONE");
        edge("8: SIZE 8, 8 BLOCKS of 64", full, "block(7, 3) = 8 block(8, 3) = NONE");
        edge("8: the first bit of BLOCK 0", full, "block(0, 4) = 0");
        edge("8: the first bit of BLOCK 1", full, "block(1, 4) = 14");
        edge("8: the first bit of the last BLOCK", "rule(1, 1) rule(2, 1)", full,
            "block(63, 4) = 882 block(63, 2) = 14 packed(-1) = 896");
        edge("8: the SEGMENT of its last BLOCK", full, "block(3, 5) = 0");
        edge("8: the SEGMENT of its first BLOCK", full, "block(4, 5) = 1");
        edge("8: the last SEGMENT has one BLOCK", Edges.times(33, "add(3)"),
            "block(4, 5) = 1 block(4, 3) = 1 block(5, 5) = NONE");
        edge("8: EVERY 1", full, "rule(2, 1) block(0, 5) = 0 block(1, 5) = 1 block(7, 5) = 7");
        edge("8: EVERY 8", full, "rule(2, 8) block(7, 5) = 0 rule(1, 1) block(7, 5) = 0 block(8, 5) = 1 block(63, 5) = 7");
        edge("8: the least COST", "rule(0, 2)", Edges.times(9, "add(2)"), "block(1, 2) = 6");
        edge("8: the greatest COST, plainly", Edges.times(16, "add(0) add(255)"), "block(0, 2) = 70 block(1, 2) = 70");
    }

    /** Of equal COSTS the least WAY, of such the least CODE. With WIDTH 4 and two SAMPLES, 8 told by WAY 0. */
    private static void choiceOfEquals() {
        String two = Edges.rules(4, 2, 1);
        edge("8: all WAYS and CODES cost the same, BARE alone", two, Edges.adds(5),
            "cost(0, 3, 8) = 10 block(0, 0) = 0 block(0, 1) = 0 block(0, 2) = 10");
        edge("8: all WAYS cost the same by CODE 0", two, Edges.adds(8, 8), "cost(0, 3, 0) = 10 block(0, 0) = 0 block(0, 1) = 0");
        edge("8: WAYS 1 to 3 cost the same", two, Edges.adds(5, 5), "cost(0, 3, 0) = 10 block(0, 0) = 1 block(0, 1) = 0");
        edge("8: the least WAY, though its CODE is greater", two, Edges.adds(5, 6), "cost(0, 0, 1) = 14 cost(0, 0, 2) = 13",
            "cost(0, 1, 1) = 13 block(0, 0) = 0 block(0, 1) = 2 block(0, 2) = 13");
        edge("8: CODES 1, 2, 3 cost the same", two, Edges.adds(0, 9), "cost(0, 0, 1) = 13 cost(0, 0, 2) = 13 cost(0, 0, 3) = 13",
            "block(0, 0) = 0 block(0, 1) = 1");
        edge("8: CODES 2, 3, 4, 8 cost the same", two, Edges.adds(0, 10),
            "cost(0, 0, 2) = 14 cost(0, 0, 4) = 14 cost(0, 0, 8) = 14",
            "block(0, 0) = 0 block(0, 1) = 2");
        edge("8: CODES 7 and 8 cost the same", "rule(1, 2)", Edges.adds(0, 176),
            "cost(0, 0, 6) = 23 cost(0, 0, 7) = 22 cost(0, 0, 8) = 22",
            "block(0, 0) = 0 block(0, 1) = 7");
        edge("8: CODE 8 by all WAYS", two, Edges.adds(0, 12), "cost(0, 0, 4) = 15 cost(0, 0, 8) = 14 cost(0, 1, 8) = 14",
            "block(0, 0) = 0 block(0, 1) = 8");
    }

    private static void choiceOfLeast() {
        String four = Edges.rules(4, 4, 1);
        edge("8: WAY 1 costs less by one bit", Edges.rules(4, 2, 1), Edges.adds(4, 5), "cost(0, 0, 2) = 14 cost(0, 1, 1) = 13",
            "block(0, 0) = 1 block(0, 1) = 1");
        edge("8: WAY 2 costs least", four, Edges.adds(1, 3, 5, 7),
            "cost(0, 2, 1) = 16 block(0, 0) = 2 block(0, 1) = 1 block(0, 2) = 16");
        edge("8: WAY 3 costs least", "rule(0, 6)", Edges.adds(20, 23, 18, 24),
            "cost(0, 3, 3) = 25 block(0, 0) = 3 block(0, 1) = 3 block(0, 2) = 25");
        edge("8: CODE 0 costs least", four, Edges.adds(5, 5, 5, 5), "cost(0, 1, 1) = 13 block(0, 1) = 0");
        edge("8: each BLOCK has a CHOICE of its own", Edges.rules(4, 2, 1), Edges.adds(8, 8, 5, 5, 0, 12),
            "block(0, 0) = 0 block(1, 0) = 1 block(2, 0) = 0",
            "block(0, 1) = 0 block(1, 1) = 0 block(2, 1) = 8");
    }

    private static void packedNumbers() {
        String one = "rule(0, 2) add(2) ";
        edge("9: how many", one, "packed(-1) = 8");
        edge("9: the first and the last bit", "rule(0, 2) add(3)", "packed(0) = 0 packed(7) = 1");
        edge("9: one behind the last", one, "packed(8) = NONE");
        edge("9: i is -2", one, "packed(-2) = OUTSIDE");
        edge("9: i the least int", one, "packed(LEAST) = OUTSIDE");
        edge("9: i the greatest int", one, "packed(GREATEST) = NONE");
        edge("9: the empty ROW", "packed(-1) = 0 packed(0) = NONE packed(GREATEST) = NONE");
        edge("9: OUTSIDE ahead of NONE, the empty ROW", "packed(-2) = OUTSIDE packed(LEAST) = OUTSIDE");
        edge("9: the most bits", "rule(1, 1) rule(2, 1)", Edges.times(64, "add(255)"),
            "packed(-1) = 896 packed(895) = 1 packed(896) = NONE packed(1000) = NONE");
        edge("9: the fewest bits of 64", "rule(0, 2) rule(2, 8)", Edges.times(64, "add(2)"),
            "packed(-1) = 50 packed(49) = 0 packed(50) = NONE");
        edge("9: bits of THE TAPE are not PACKED", Edges.bits("111"), "packed(-1) = 0 packed(0) = NONE");
    }

    private static void packedBits() {
        edge("9: the highest bit of a BARE one first", "add(128)", Edges.duePacked("00 0000 10000000"));
        edge("9: the lowest bit of a BARE one last", "add(1)", Edges.duePacked("00 0000 00000001"));
        edge("9: WIDTH 2", "rule(0, 2) add(1)", Edges.duePacked("00 0000 01"));
        edge("9: WAY 1, CODE 0", "rule(0, 4)", Edges.adds(5, 5), Edges.duePacked("01 0000 0101"));
        edge("9: CODE 8, a FOLD of TOP less 1", "rule(0, 4)", Edges.adds(0, 15), Edges.duePacked("00 1000 0000 1110"));
        edge("9: CODE 8, a FOLD of TOP", Edges.rules(4, 2, 2), Edges.adds(15, 15, 15, 0),
            Edges.duePacked("01 0000 1111  00 1000 1110 1111"));
        edge("9: CODE 7", Edges.adds(0, 176), Edges.duePacked("00 0111 00000000 01 100000"));
        edge("9: WAY 3, CODE 3, rests of two bits", "rule(0, 6)", Edges.adds(20, 23, 18, 24),
            Edges.duePacked("11 0011 010100  01 10  01 01  001 00"));
        edge("9: WAY 2, CODE 1, no rests", "rule(0, 4)", Edges.adds(1, 3, 5, 7), Edges.duePacked("10 0001 0001  0001 1 1"));
        edge("9: BLOCKS one behind the other, a SEGMENT anew", Edges.rules(4, 2, 2), Edges.adds(9, 9, 9, 9, 0, 15, 15),
            Edges.duePacked("01 0000 1001  01 0000  00 1000 0000 1110  01 0000"));
        edge("9: one SAMPLE in a BLOCK that is not BARE", Edges.rules(4, 1, 8), Edges.adds(9, 9),
            Edges.duePacked("00 0000 1001  01 0000"));
    }

    private static void lost() {
        String some = Edges.rules(8, 3, 2) + Edges.times(14, "add(3)");
        String full = Edges.times(64, "add(3)");
        edge("10: the first BLOCK of a SEGMENT", some, "lost(0) = 6 lost(2) = 6");
        edge("10: the last BLOCK of a SEGMENT", some, "lost(1) = 3 lost(3) = 3");
        edge("10: the last SEGMENT has what is left", some, "lost(4) = 2");
        edge("10: the last SEGMENT has two BLOCKS, the last what is left", some, Edges.times(2, "add(3)"),
            "lost(4) = 4 lost(5) = 1");
        edge("10: one behind the last BLOCK", some, "lost(5) = NONE");
        edge("10: b below 0", some, "lost(-1) = NONE");
        edge("10: b the least int", some, "lost(LEAST) = NONE");
        edge("10: b the greatest int", some, "lost(GREATEST) = NONE");
        edge("10: the empty ROW", "lost(0) = NONE lost(-1) = NONE");
        edge("10: one SAMPLE", "add(3) lost(0) = 1 lost(1) = NONE");
        edge("10: all 64 are one SEGMENT", full, "rule(2, 8) lost(0) = 64 lost(7) = 8 lost(8) = NONE");
        edge("10: all 64 are a SEGMENT each", full, "rule(1, 1) rule(2, 1) lost(0) = 1 lost(63) = 1 lost(64) = NONE");
        edge("10: a SEGMENT of 56, one of 8", full,
            "rule(1, 7) rule(2, 8) lost(0) = 56 lost(7) = 7 lost(8) = 8 lost(9) = 1 lost(10) = NONE");
    }

    private static void asThingsAre() {
        edge("7: as things are, a SAMPLE more", "rule(0, 4) add(5) cost(0, 1, 8) = 10 add(5) cost(0, 1, 8) = 14");
        edge("7: as things are, WIDTH", "rule(0, 4)", Edges.adds(5, 5), "cost(0, 1, 8) = 14 rule(0, 8) = 4 cost(0, 1, 8) = 22");
        edge("8: as things are, a SAMPLE more", "rule(0, 4)", Edges.adds(5, 5),
            "block(0, 2) = 10 add(0) = 3 block(0, 2) = 18 block(0, 1) = 8");
        edge("8: as things are, EVERY", Edges.rules(4, 1, 2), Edges.adds(9, 9),
            "block(1, 0) = 1 block(1, 2) = 6 rule(2, 1) block(1, 0) = 0 block(1, 2) = 10");
        edge("9: as things are, a BLOCK more", Edges.rules(4, 1, 1), "add(5)",
            "packed(-1) = 10 add(6) packed(-1) = 20 packed(19) = 0 packed(18) = 1");
        edge("9: as things are, SIZE", Edges.rules(4, 1, 1), Edges.adds(9, 9),
            "packed(-1) = 20 rule(1, 2) packed(-1) = 10 packed(1) = 1");
        edge("9: as things are, read", Edges.rules(4, 1, 1), Edges.adds(9, 9, 9), "packed(-1) = 30", Edges.bits("00 0000 0001"),
            "read(1) = 1",
            Edges.duePacked("00 0000 0001"));
        edge("9: as things are, restored", Edges.rules(4, 1, 1), Edges.adds(9), "image(0)", Edges.adds(1, 2),
            "packed(-1) = 30 restore(0) = 1",
            Edges.duePacked("00 0000 1001"));
        edge("10: as things are, a SAMPLE more", "add(3) lost(0) = 1 add(3) lost(0) = 2");
        edge("10: as things are, SIZE and EVERY", Edges.times(9, "add(3)"),
            "lost(0) = 9 rule(2, 1) lost(0) = 8 rule(1, 2) lost(0) = 2");
    }

    private static void askingChangesNothing() {
        String three = Edges.rules(4, 2, 1) + Edges.adds(5, 5, 7);
        String all = Edges.duePacked("01 0000 0101  00 0000 0111")
            + "count(1) = 2 count(2) = 2 count(3) = 20 count(8) = 2 tape() = 20 read(3) = 3 ";
        edge("7: asking of any WAY and CODE changes nothing", three, "cost(1, 3, 8) = 10 cost(0, 0, 8) = 14", all);
        edge("8: asking of the last BLOCK changes nothing", three, "block(1, 2) = 10", all);
        edge("8: asking of the first BLOCK alone changes nothing", three, "block(0, 2) = 10", all);
        edge("8: asking of no BLOCK changes nothing", three, "block(2, 2) = NONE", all);
        edge("8: asking of the last BLOCK, then a SAMPLE more", Edges.rules(4, 2, 1), Edges.adds(5, 5),
            "block(0, 2) = 10 add(7) = 3", all);
        edge("8: asking of the last BLOCK, then it grows", Edges.rules(4, 2, 1), Edges.adds(5),
            "block(0, 2) = 10 add(5) = 2 add(7) = 3", all);
        edge("9: asking of a bit, then a SAMPLE more", Edges.rules(4, 2, 1), Edges.adds(5, 5),
            "packed(9) = 1 packed(10) = NONE add(7) = 3", all);
        edge("10: asking what is lost changes nothing", three, "lost(0) = 2 lost(1) = 1", all);
    }
}
