/** The boundary cases of the promises 11 to 17, and of part 3 of the terms: THE TAPE, reading it, its FAULT. */
public final class TapeEdgesTest {
    private static final Edges edges = new Edges();

    // 64 BARE noughts are the most bits that tape() gives, all of them 0, so 512 calls can fill THE TAPE.
    private static final String NOUGHTS_896 = "rule(1, 1) rule(2, 1) " + Edges.times(64, "add(0)") + "tape() = 896 clear() = 64 ";
    private static final String NOUGHTS_999 = NOUGHTS_896 + Edges.times(103, "push(0)");
    private static final String NOUGHTS_1000 = NOUGHTS_999 + "push(0) = 1000 ";

    public static void main(String[] args) {
        tape();
        push();
        flip();
        cut();
        bit();
        readNumbers();
        readWhatIsLeft();
        readEachNumber();
        readByRules();
        readFolds();
        readToldAhead();
        readFullTape();
        faultNumbers();
        faultOneInHeads();
        faultOneInFolds();
        faultOneInLaterBlocks();
        faultTwo();
        faultTwoByWidth();
        faultThreeByWidth();
        faultThree();
        faultFour();
        firstFault();
        faultStays();
        faultGoes();
        edges.end();
    }

    private static void edge(String title, String... parts) {
        edges.edge(title, parts);
    }

    /** THE TAPE, with no calls ahead but the rules, is read as n SAMPLES and has this FAULT; THE ROW stays. */
    private static void edgeOfFault(String title, String rules, String bits, int n, int number, int place, int samples) {
        edge(title, rules, "add(1) = 1", Edges.bits(bits), "read(" + n + ") = FAULT", Edges.dueFault(number, place, samples),
            Edges.dueRow(1));
    }

    private static void tape() {
        edge("11: the empty ROW, the empty TAPE", "tape() = 0 bit(-1) = 0 bit(0) = NONE");
        edge("11: the empty ROW in place of a TAPE", Edges.bits("101"), "tape() = 0 bit(-1) = 0 bit(0) = NONE");
        edge("11: one SAMPLE", "add(255) tape() = 14", Edges.dueTape("00 0000 11111111"));
        edge("11: fewer bits in place of more", Edges.times(20, "push(1)"), "add(0) tape() = 14",
            Edges.dueTape("00 0000 00000000"), "bit(14) = NONE");
        edge("11: more bits in place of fewer", Edges.bits("111"), "add(0) tape() = 14", Edges.dueTape("00 0000 00000000"));
        edge("11: the most bits", "rule(1, 1) rule(2, 1)", Edges.times(64, "add(255)"),
            "tape() = 896 bit(895) = 1 bit(896) = NONE push(0) = 897");
        edge("11: in place of the full TAPE", NOUGHTS_1000, "add(255) tape() = 14 bit(13) = 1 bit(14) = NONE push(1) = 15");
        edge("11: THE ROW stays", Edges.adds(7, 8), "tape()", Edges.dueRow(7, 8));
        edge("11: twice", "add(7) tape() = 14 tape() = 14");
        edge("11: what is PACKED later is not on it", "add(7) tape() = 14 add(9) = 2 bit(-1) = 14 clear() = 2 bit(-1) = 14");
        edge("11: what is flipped is not PACKED", "add(7) tape() = 14 flip(0) = 1 packed(0) = 0 tape() = 14 bit(0) = 0");
    }

    private static void push() {
        edge("12: 0", "push(0) = 1 bit(0) = 0");
        edge("12: 1", "push(1) = 1 bit(0) = 1");
        edge("12: -1", "push(-1) = OUTSIDE bit(-1) = 0");
        edge("12: 2", "push(2) = OUTSIDE bit(-1) = 0");
        edge("12: the least int", "push(LEAST) = OUTSIDE");
        edge("12: the greatest int", "push(GREATEST) = OUTSIDE");
        edge("12: the 1000th bit", NOUGHTS_999, "push(1) = 1000 bit(999) = 1 bit(998) = 0 count(4) = 1000");
        edge("12: FULL", NOUGHTS_1000, "push(1) = FULL push(0) = FULL bit(-1) = 1000 bit(999) = 0 bit(1000) = NONE");
        edge("12: OUTSIDE ahead of FULL, too large", NOUGHTS_1000, "push(2) = OUTSIDE push(GREATEST) = OUTSIDE");
        edge("12: OUTSIDE ahead of FULL, too small", NOUGHTS_1000, "push(-1) = OUTSIDE push(LEAST) = OUTSIDE");
        edge("12: FULL no more behind cut()", NOUGHTS_1000,
            "push(1) = FULL cut(999) = 1 push(1) = 1000 bit(999) = 1 push(0) = FULL");
        edge("12: FULL no more behind tape()", NOUGHTS_1000, "push(1) = FULL tape() = 0 push(1) = 1");
        edge("12: FULL, THE TAPE was restored", NOUGHTS_1000, "image(1) = 1 cut(0) = 1000 restore(1) = 1 push(0) = FULL");
        edge("12: the full ROW does not matter", Edges.times(64, "add(0)"), "push(1) = 1");
    }

    private static void flip() {
        edge("13: 0 becomes 1", Edges.bits("0"), "flip(0) = 1 bit(0) = 1");
        edge("13: 1 becomes 0", Edges.bits("1"), "flip(0) = 0 bit(0) = 0");
        edge("13: twice", Edges.bits("0"), "flip(0) = 1 flip(0) = 0 bit(0) = 0");
        edge("13: the first and the last bit alone", Edges.bits("0000"), "flip(0) = 1 flip(3) = 1", Edges.dueTape("1001"));
        edge("13: one behind the last", Edges.bits("000"), "flip(3) = OUTSIDE");
        edge("13: i is -1", Edges.bits("000"), "flip(-1) = OUTSIDE");
        edge("13: i the least int", Edges.bits("000"), "flip(LEAST) = OUTSIDE");
        edge("13: i the greatest int", Edges.bits("000"), "flip(GREATEST) = OUTSIDE");
        edge("13: the empty TAPE", "flip(0) = OUTSIDE flip(-1) = OUTSIDE");
        edge("13: behind a cut", Edges.bits("111"), "cut(1) = 2 flip(1) = OUTSIDE flip(0) = 0");
        edge("13: the full TAPE", NOUGHTS_1000, "flip(999) = 1 bit(999) = 1 flip(1000) = OUTSIDE");
    }

    private static void cut() {
        String five = Edges.bits("10110");
        edge("14: none goes", five, "cut(5) = 0", Edges.dueTape("10110"));
        edge("14: one goes", five, "cut(4) = 1", Edges.dueTape("1011"), "bit(4) = NONE");
        edge("14: one is kept", five, "cut(1) = 4", Edges.dueTape("1"), "bit(1) = NONE");
        edge("14: all go", five, "cut(0) = 5 bit(-1) = 0 bit(0) = NONE");
        edge("14: it has fewer by 1", five, "cut(6) = OUTSIDE");
        edge("14: n is -1", five, "cut(-1) = OUTSIDE");
        edge("14: n the least int", five, "cut(LEAST) = OUTSIDE");
        edge("14: n the greatest int", five, "cut(GREATEST) = OUTSIDE");
        edge("14: the empty TAPE", "cut(0) = 0 cut(1) = OUTSIDE cut(-1) = OUTSIDE");
        edge("14: the full TAPE, none goes", NOUGHTS_1000, "cut(1001) = OUTSIDE cut(1000) = 0 push(0) = FULL");
        edge("14: the full TAPE, one goes", NOUGHTS_1000, "cut(999) = 1 bit(-1) = 999 bit(999) = NONE");
        edge("14: the full TAPE, all go", NOUGHTS_1000, "cut(0) = 1000 bit(-1) = 0 cut(1) = OUTSIDE");
        edge("14: bits that went do not come back", five, "cut(2) = 3", Edges.bits("00"), Edges.dueTape("1000"));
    }

    private static void bit() {
        String three = Edges.bits("011");
        edge("15: how many", three, "bit(-1) = 3");
        edge("15: the first and the last bit", three, "bit(0) = 0 bit(2) = 1");
        edge("15: one behind the last", three, "bit(3) = NONE");
        edge("15: i is -2", three, "bit(-2) = OUTSIDE");
        edge("15: i the least int", three, "bit(LEAST) = OUTSIDE");
        edge("15: i the greatest int", three, "bit(GREATEST) = NONE");
        edge("15: the empty TAPE", "bit(-1) = 0 bit(0) = NONE bit(GREATEST) = NONE");
        edge("15: OUTSIDE ahead of NONE, the empty TAPE", "bit(-2) = OUTSIDE bit(LEAST) = OUTSIDE");
        edge("15: the full TAPE", NOUGHTS_999, "push(1) = 1000 bit(-1) = 1000 bit(999) = 1 bit(1000) = NONE");
    }

    private static void readNumbers() {
        String some = Edges.bits("00 0000 00000111");
        edge("16: n is -1", some, "read(-1) = OUTSIDE", Edges.dueNoFault());
        edge("16: n is 65", some, "read(65) = OUTSIDE", Edges.dueNoFault());
        edge("16: n the least int", some, "read(LEAST) = OUTSIDE", Edges.dueNoFault());
        edge("16: n the greatest int", some, "read(GREATEST) = OUTSIDE", Edges.dueNoFault());
        edge("16: n is 0, the empty TAPE", "read(0) = 0 count(0) = 0", Edges.dueNoFault());
        edge("16: n is 0, THE ROW is empty then", Edges.adds(4, 5), "read(0) = 0 count(0) = 0 sample(0) = NONE packed(-1) = 0");
        edge("16: n is 0, a bit is there", Edges.adds(4, 5), Edges.bits("0"), "read(0) = FAULT", Edges.dueFault(4, 0, 0),
            Edges.dueRow(4, 5));
        edge("16: n is 1", some, "read(1) = 1", Edges.dueRow(7));
        edge("16: n is 1, the empty TAPE", "add(5) read(1) = FAULT", Edges.dueFault(1, 0, 0), Edges.dueRow(5));
        edge("16: n is 64, the empty TAPE", "read(64) = FAULT", Edges.dueFault(1, 0, 0));
        edge("16: n is 64", "rule(2, 8)", Edges.times(56, "push(0)"),
            "read(64) = 64 count(0) = 64 sample(0) = 0 sample(1) = 128 sample(63) = 128 sample(64) = NONE");
        edge("16: OUTSIDE ahead of FAULT", "read(65) = OUTSIDE read(-1) = OUTSIDE", Edges.dueNoFault());
        edge("16: fewer in place of the full ROW", Edges.times(64, "add(3)"), some, "read(1) = 1", Edges.dueRow(7),
            "sample(1) = NONE count(1) = 1");
        edge("16: FAULT, the full ROW stays", Edges.times(64, "add(3)"), some,
            "read(0) = FAULT count(0) = 64 sample(63) = 3 add(0) = FULL");
        edge("16: THE TAPE stays", some, "read(1) = 1", Edges.dueTape("00 0000 00000111"));
        edge("16: THE TAPE stays, and a FAULT", some, "read(0) = FAULT", Edges.dueTape("00 0000 00000111"));
        edge("16: what was chosen does not matter", "rule(0, 4)", Edges.bits("11 1000 0101 0000"), "read(2) = 2",
            Edges.dueRow(5, 5),
            Edges.duePacked("01 0000 0101"), "bit(-1) = 14");
    }

    private static void readWhatIsLeft() {
        edge("16: the last BLOCK has one left", Edges.rules(4, 2, 2), Edges.bits("01 1000 0101 0010  01 1000 0010"),
            "read(3) = 3", Edges.dueRow(5, 6, 7));
        edge("16: the last BLOCK is whole", Edges.rules(4, 2, 2), Edges.bits("01 1000 0101 0010  01 1000 0010 0000"),
            "read(4) = 4", Edges.dueRow(5, 6, 7, 7));
        edge("16: the last SEGMENT has a BARE one alone", Edges.rules(4, 1, 2), Edges.bits("00 0000 0101  01 0000  00 0000 1111"),
            "read(3) = 3", Edges.dueRow(5, 5, 15));
        edge("16: CODE 0 fills what is left of 63", "rule(2, 8)", Edges.times(56, "push(0)"),
            "read(63) = 63 sample(62) = 128 sample(63) = NONE");
        edge("16: CODE 0 fills what is left of 57", "rule(2, 8)", Edges.times(56, "push(0)"),
            "read(57) = 57 sample(56) = 128 sample(57) = NONE");
        edge("16: a BLOCK fewer leaves its head", "rule(2, 8)", Edges.times(56, "push(0)"), "read(56) = FAULT",
            Edges.dueFault(4, 50, 56));
        edge("16: any CODE, there is no FOLD", Edges.rules(4, 2, 1), Edges.bits("11 0100 0101"), "read(1) = 1", Edges.dueRow(5));
        edge("16: SIZE 1, EVERY 1, all are BARE", Edges.rules(2, 1, 1), Edges.bits("00 0000 11  01 0001 00  10 1000 10"),
            "read(3) = 3", Edges.dueRow(3, 0, 2));
    }

    /** For every SIZE and EVERY each number of SAMPLES comes back. */
    private static void readEachNumber() {
        for (int size = 1; size <= 8; size++) {
            for (int every = 1; every <= 8; every++) {
                StringBuilder story = new StringBuilder(Edges.rules(5, size, every) + "tape() = 0 read(0) = 0 ");
                for (int n = 1; n <= 64; n++) {
                    int v = n * n * 11 + n * 5 & (n % 16 < 8 ? 3 : 31);
                    story.append("add(").append(v).append(") = ").append(n).append(" tape() read(").append(n).append(") = ")
                        .append(n).append(" sample(").append(n - 1).append(") = ").append(v).append(' ');
                }
                edge("16: each number of SAMPLES, SIZE " + size + ", EVERY " + every, story.toString());
            }
        }
    }

    private static void readByRules() {
        String written = Edges.rules(4, 1, 1) + Edges.adds(0, 15) + "tape() = 20 ";
        edge("16: WIDTH as it is", written, "clear() = 2 rule(0, 2) = 4 read(2) = FAULT", Edges.dueFault(4, 16, 2));
        edge("16: SIZE as it is", written, "rule(1, 8) = 1 read(2) = FAULT", Edges.dueFault(4, 10, 2));
        edge("16: EVERY as it is", written, "rule(2, 8) = 1 read(2) = FAULT", Edges.dueFault(4, 16, 2));
        edge("16: rules that are back again", written, "rule(1, 8) = 1 read(2) = FAULT rule(1, 1) = 8 read(2) = 2",
            Edges.dueNoFault(), Edges.dueRow(0, 15));
        edge("16: a SAMPLE read is TOP of WIDTH as it is", "rule(0, 2)", Edges.bits("00 0000 11"),
            "read(1) = 1 sample(0) = 3 rule(0, 2) = 2");
    }

    private static void readFolds() {
        for (int[] one : Edges.FOLDS) {
            String bits = "01 1000" + number(one[0], 4) + number(one[2], 4);
            edge("16: FOLD " + one[2] + " is " + one[1] + ", told " + one[0], "rule(0, 4)", Edges.bits(bits), "read(2) = 2",
                Edges.dueRow(one[0], one[1]));
        }
        edge("16: FOLD of TOP, WIDTH 2, told 0", "rule(0, 2)", Edges.bits("01 1000 00 11"), "read(2) = 2", Edges.dueRow(0, 3));
        edge("16: FOLD of TOP, WIDTH 2, told TOP", "rule(0, 2)", Edges.bits("01 1000 11 11"), "read(2) = 2", Edges.dueRow(3, 0));
        edge("16: FOLD of TOP, WIDTH 8, told 0", Edges.bits("01 1000 00000000 11111111"), "read(2) = 2", Edges.dueRow(0, 255));
        edge("16: FOLD of TOP, WIDTH 8, told TOP", Edges.bits("01 1000 11111111 11111111"), "read(2) = 2", Edges.dueRow(255, 0));
    }

    /** What is TOLD AHEAD of SAMPLES that are being read; FOLDS of 0 show it. With WIDTH 4. */
    private static void readToldAhead() {
        edge("16: WAY 0", "rule(0, 4)", Edges.bits("00 1000 0101 0000"), "read(2) = 2", Edges.dueRow(5, 8));
        edge("16: WAY 1", "rule(0, 4)", Edges.bits("01 1000 0101 0010 0000"), "read(3) = 3", Edges.dueRow(5, 6, 6));
        edge("16: WAY 2, no b", "rule(0, 4)", Edges.bits("10 1000 0101 0000"), "read(2) = 2", Edges.dueRow(5, 5));
        edge("16: WAY 2, below 0", "rule(0, 4)", Edges.bits("10 1000 1011 1010 0000"), "read(3) = 3", Edges.dueRow(11, 5, 0));
        edge("16: WAY 2, just 0", "rule(0, 4)", Edges.bits("10 1000 1010 1001 0000"), "read(3) = 3", Edges.dueRow(10, 5, 0));
        edge("16: WAY 2, above TOP", "rule(0, 4)", Edges.bits("10 1000 0000 1000 0000"), "read(3) = 3", Edges.dueRow(0, 8, 15));
        edge("16: WAY 2, just TOP", "rule(0, 4)", Edges.bits("10 1000 0001 1000 0000"), "read(3) = 3", Edges.dueRow(1, 8, 15));
        edge("16: WAY 3 is cut", "rule(0, 4)", Edges.bits("11 1000 0101 0010 0000"), "read(3) = 3", Edges.dueRow(5, 6, 5));
        edge("16: a and b are of the BLOCK before", Edges.rules(4, 2, 2), Edges.bits("01 1000 0101 0010  10 0000"), "read(4) = 4",
            Edges.dueRow(5, 6, 7, 8));
        edge("16: b is of another SEGMENT", Edges.rules(4, 2, 1), Edges.bits("01 1000 0101 0010  10 0000 1111"), "read(4) = 4",
            Edges.dueRow(5, 6, 15, 15));
        edge("16: a and b are those read, not those of THE ROW", "rule(0, 4)", Edges.adds(1, 15, 1),
            Edges.bits("10 1000 0101 0010 0000"),
            "read(3) = 3", Edges.dueRow(5, 6, 7));
    }

    /**
     * All 1000 bits are 64 SAMPLES: BLOCKS of 14 noughts, but three of CODE 1 with 255, 255 and 39 noughts in a FOLD.
     */
    private static void readFullTape() {
        String full = NOUGHTS_1000 + "rule(1, 2) flip(5) flip(269) flip(275) flip(539) flip(545) flip(593) ";
        edge("16: the full TAPE", full, "read(64) = 64", Edges.dueNoFault(),
            "sample(0) = 0 sample(1) = 0 sample(2) = 0 sample(3) = 0",
            "sample(4) = 0 sample(5) = 108 sample(6) = 0 sample(7) = 128 sample(62) = 0 sample(63) = 128 add(0) = FULL");
        edge("16: the full TAPE, its last BLOCK has one left", full, "read(63) = 63 sample(62) = 0 sample(63) = NONE");
        edge("16: the full TAPE, a BLOCK is left", full, "read(62) = FAULT", Edges.dueFault(4, 986, 62));
        edge("16: the full TAPE less one bit", full, "cut(999) = 1 read(64) = FAULT", Edges.dueFault(1, 999, 62));
        edge("16: the full TAPE, its last bit", full, "flip(999) = 1 read(64) = 64 sample(62) = 1");
        // Folds of 256 bits each, three of them whole: the fourth has 218 noughts and THE TAPE ends.
        edge("17: FAULT 1 of the full TAPE", NOUGHTS_1000, "rule(1, 8) flip(5) flip(269) flip(525) flip(781) read(64) = FAULT",
            Edges.dueFault(1, 1000, 4));
        edge("17: FAULT 2 of the full TAPE", NOUGHTS_1000, "rule(1, 8) flip(2) flip(5) read(64) = FAULT",
            Edges.dueFault(2, 0, 0));
        edge("17: FAULT 3 of the full TAPE", NOUGHTS_1000, "rule(1, 8) flip(5) read(64) = FAULT", Edges.dueFault(3, 14, 1));
        edge("17: FAULT 4 of the full TAPE", NOUGHTS_1000, "read(64) = FAULT", Edges.dueFault(4, 896, 64));
    }

    private static void faultNumbers() {
        for (String what : new String[] {"-1", "3", "LEAST", "GREATEST"}) {
            edge("17: what " + what + ", no FAULT", "fault(" + what + ") = OUTSIDE");
            edge("17: what " + what + ", a FAULT", "read(1) = FAULT fault(" + what + ") = OUTSIDE", Edges.dueFault(1, 0, 0));
        }
        edge("17: none was told", Edges.dueNoFault());
        edge("17: none was told, a read() was OUTSIDE", "read(65) = OUTSIDE", Edges.dueNoFault());
        edge("17: none was told, though THE TAPE has one", "push(1) = 1", Edges.dueNoFault());
    }

    private static void faultOneInHeads() {
        String rules = Edges.rules(4, 3, 2);
        edgeOfFault("17: FAULT 1, the empty TAPE", rules, "", 1, 1, 0, 0);
        edgeOfFault("17: FAULT 1, a head of one bit", rules, "0", 1, 1, 1, 0);
        edgeOfFault("17: FAULT 1, a head of the WAY alone", rules, "01", 1, 1, 2, 0);
        edgeOfFault("17: FAULT 1, a head lacks one bit", rules, "01 000", 1, 1, 5, 0);
        edgeOfFault("17: FAULT 1, a BARE one is not there", rules, "01 0000", 1, 1, 6, 0);
        edgeOfFault("17: FAULT 1, a BARE one has one bit", rules, "01 0000 0", 1, 1, 7, 0);
        edgeOfFault("17: FAULT 1, a BARE one lacks one bit, CODE 0", rules, "01 0000 010", 3, 1, 9, 0);
        edge("17: no FAULT, a BARE one has all its bits, CODE 0", rules, Edges.bits("01 0000 0101"), "read(3) = 3",
            Edges.dueNoFault());
        edgeOfFault("17: FAULT 1, a head lacks one bit, its CODE is too high", rules, "00 111", 1, 1, 5, 0);
        edgeOfFault("17: FAULT 1, WIDTH 2, a BARE one lacks one bit", "rule(0, 2)", "00 0000 1", 1, 1, 7, 0);
        edgeOfFault("17: FAULT 1, WIDTH 8, a BARE one lacks one bit", "rule(0, 8)", "00 0000 1111111", 1, 1, 13, 0);
    }

    private static void faultOneInFolds() {
        String rules = Edges.rules(4, 3, 2);
        edgeOfFault("17: FAULT 1, CODE 1, no FOLD is there", rules, "01 0001 0101", 2, 1, 10, 1);
        edgeOfFault("17: FAULT 1, CODE 1, one nought", rules, "01 0001 0101 0", 2, 1, 11, 1);
        edgeOfFault("17: FAULT 1, CODE 1, the second FOLD is not there", rules, "01 0001 0101 1", 3, 1, 11, 2);
        edge("17: no FAULT, CODE 1, a one is enough", rules, Edges.bits("01 0001 0101 1"), "read(2) = 2", Edges.dueNoFault());
        edgeOfFault("17: FAULT 1, CODE 3, rests are not there", rules, "01 0011 0101 1", 2, 1, 11, 1);
        edgeOfFault("17: FAULT 1, CODE 3, rests lack one bit", rules, "01 0011 0101 1 1", 2, 1, 12, 1);
        edge("17: no FAULT, CODE 3, all rests are there", rules, Edges.bits("01 0011 0101 1 10"), "read(2) = 2",
            Edges.dueRow(5, 6));
        edgeOfFault("17: FAULT 1, CODE 8, no FOLD is there", rules, "01 1000 0101", 2, 1, 10, 1);
        edgeOfFault("17: FAULT 1, CODE 8, a FOLD lacks one bit", rules, "01 1000 0101 000", 2, 1, 13, 1);
        edgeOfFault("17: FAULT 1, CODE 8, the second FOLD lacks one bit", rules, "01 1000 0101 0000 111", 3, 1, 17, 2);
        edgeOfFault("17: FAULT 1, CODE 8, noughts are no FAULT 3", "rule(0, 8)", "01 1000 00000000 0000000", 2, 1, 21, 1);
    }

    private static void faultOneInLaterBlocks() {
        String rules = Edges.rules(4, 3, 2);
        edgeOfFault("17: FAULT 1, no head behind CODE 0", rules, "01 0000 0101", 4, 1, 10, 3);
        edgeOfFault("17: FAULT 1, a head behind CODE 0 lacks one bit", rules, "01 0000 0101 01 000", 6, 1, 15, 3);
        edgeOfFault("17: FAULT 1, no head behind two of CODE 0", rules, "01 0000 0101 01 0000", 7, 1, 16, 6);
        edgeOfFault("17: FAULT 1, a BARE one of the second SEGMENT", rules, "01 0000 0101 01 0000 00 0000 111", 9, 1, 25, 6);
        edgeOfFault("17: FAULT 1, the first FOLD of a BLOCK", rules, "01 0000 0101 01 0001", 6, 1, 16, 3);
        edgeOfFault("17: FAULT 1, the 64th SAMPLE", Edges.rules(8, 8, 8), "0".repeat(50), 64, 1, 50, 56);
        edgeOfFault("17: FAULT 1, the last BLOCK has one left", rules, "01 0000 0101 01 1000 000", 4, 1, 19, 3);
        edgeOfFault("17: FAULT 1, SIZE 1, EVERY 1", Edges.rules(4, 1, 1), "00 0000 0001 00 0000 111", 2, 1, 19, 1);
    }

    private static void faultTwo() {
        String rules = Edges.rules(4, 3, 2);
        edge("17: no FAULT, CODE 8", Edges.bits("00 1000 00000000"), "read(1) = 1", Edges.dueNoFault());
        for (int code = 9; code <= 15; code++) {
            String head = "00" + number(code, 4);
            edgeOfFault("17: FAULT 2, CODE " + code, "rule(0, 8)", head + "00000000", 1, 2, 0, 0);
        }
        edgeOfFault("17: FAULT 2, no bit is behind the head", rules, "00 1001", 1, 2, 0, 0);
        edgeOfFault("17: FAULT 2, there would be no FOLD", Edges.rules(4, 1, 1), "00 1001 0000", 1, 2, 0, 0);
        edgeOfFault("17: FAULT 2 in the second BLOCK", rules, "01 0000 0101 01 1001 0000", 4, 2, 10, 3);
        edgeOfFault("17: FAULT 2 in the second SEGMENT", Edges.rules(4, 3, 1), "01 0000 0101 11 1111 0000", 4, 2, 10, 3);
        edgeOfFault("17: FAULT 2 behind FOLDS", rules, "01 0001 0101 1 01 00 1010", 4, 2, 13, 3);
        edgeOfFault("17: FAULT 2 in the 64th BLOCK", Edges.rules(2, 1, 8), number(0, 8 * 8 + 56 * 6 - 6) + "00 1001", 64, 2, 394,
            63);
    }

    private static void faultTwoByWidth() {
        for (int width = 2; width <= 8; width++) {
            String rule = "rule(0, " + width + ") ";
            int most = Math.min(width, 7);
            String fine = "00" + number(most, 4) + number(0, width);
            edge("17: no FAULT, WIDTH " + width + ", CODE " + most, rule, Edges.bits(fine), "read(1) = 1", Edges.dueNoFault());
            for (int code = width + 1; code <= 7; code++) {
                String head = "00" + number(code, 4);
                edgeOfFault("17: FAULT 2, WIDTH " + width + ", CODE " + code, rule, head + number(0, width), 1, 2, 0, 0);
            }
        }
    }

    /** Told 0 by WAY 1, so that a FOLD is the SAMPLE; the most noughts of each CODE, and one too many. */
    private static void faultThreeByWidth() {
        for (int width = 2; width <= 8; width++) {
            for (int code = 1; code <= Math.min(width, 7); code++) {
                int top = (1 << width) - 1;
                int most = top >> code - 1;
                int head = 6 + width;
                String rule = "rule(0, " + width + ") ";
                String ahead = "01" + number(code, 4) + number(0, width) + "0".repeat(most);
                String name = "WIDTH " + width + ", CODE " + code;
                edge("17: no FAULT, " + name + ", the greatest FOLD", rule, Edges.bits(ahead + "1" + "1".repeat(code - 1)),
                    "read(2) = 2",
                    Edges.dueNoFault(), Edges.dueRow(0, top));
                edgeOfFault("17: FAULT 1, " + name + ", the most noughts", rule, ahead, 2, 1, head + most, 1);
                edgeOfFault("17: FAULT 3, " + name + ", a nought too many", rule, ahead + "0", 2, 3, head, 1);
                edgeOfFault("17: FAULT 3, " + name + ", bits follow", rule, ahead + "01111", 2, 3, head, 1);
            }
        }
    }

    private static void faultThree() {
        String rules = Edges.rules(2, 3, 2);
        edgeOfFault("17: FAULT 3 in the first FOLD", rules, "01 0001 10 0000", 3, 3, 8, 1);
        edgeOfFault("17: FAULT 3 in the second FOLD", rules, "01 0001 10 01 0000", 3, 3, 10, 2);
        edgeOfFault("17: FAULT 3 in a BLOCK with none BARE", rules, "01 0000 10 01 0001 0000", 6, 3, 14, 3);
        edgeOfFault("17: FAULT 3 in the last FOLD of what is left", rules, "01 0000 10 01 0010 00", 4, 3, 14, 3);
        edgeOfFault("17: FAULT 3, more noughts follow", rules, "01 0010 10 00000000", 2, 3, 8, 1);
        edgeOfFault("17: FAULT 3 behind rests", rules, "01 0010 10 1 1 00 1", 3, 3, 10, 2);
        edge("17: no FAULT, noughts of rests are none of the next FOLD", rules, Edges.bits("01 0010 10 1 0 01 0"), "read(3) = 3",
            Edges.dueNoFault());
    }

    private static void faultFour() {
        String rules = Edges.rules(2, 2, 2);
        edgeOfFault("17: FAULT 4, n is 0, a bit", rules, "0", 0, 4, 0, 0);
        edgeOfFault("17: FAULT 4, one bit is left", rules, "01 0000 10 1", 2, 4, 8, 2);
        edgeOfFault("17: FAULT 4, a nought is left", rules, "01 0000 10 0", 2, 4, 8, 2);
        edgeOfFault("17: FAULT 4, many bits are left", rules, "01 0000 10 0101010101", 2, 4, 8, 2);
        edgeOfFault("17: FAULT 4, a whole BLOCK is left", rules, "01 0000 10 01 0000", 2, 4, 8, 2);
        edgeOfFault("17: FAULT 4, a FOLD is left", rules, "01 1000 10 00", 1, 4, 8, 1);
        edgeOfFault("17: FAULT 4, 64 SAMPLES", Edges.rules(8, 8, 8), "0".repeat(57), 64, 4, 56, 64);
        edge("17: no FAULT, no bit is left", rules, Edges.bits("01 0000 10 1"), "cut(8) = 1 read(2) = 2", Edges.dueNoFault());
    }

    private static void firstFault() {
        String rules = Edges.rules(2, 2, 2);
        edgeOfFault("17: FAULT 3 ahead of a FAULT 2", rules, "01 0001 10 0000 00 1111", 3, 3, 8, 1);
        edgeOfFault("17: FAULT 2 ahead of a FAULT 3", rules, "01 1111 10 01 0001 0000", 3, 2, 0, 0);
        edgeOfFault("17: FAULT 2 ahead of a FAULT 2", rules, "00 1110 00 1111", 3, 2, 0, 0);
        edgeOfFault("17: FAULT 2 ahead of bits left", rules, "01 0000 10 01 1001 111111", 3, 2, 8, 2);
        edgeOfFault("17: FAULT 3 ahead of bits left", rules, "01 0001 10 0000 111111", 2, 3, 8, 1);
        edgeOfFault("17: FAULT 2 ahead of bits missing", rules, "01 0000 10 01 1001", 4, 2, 8, 2);
        edgeOfFault("17: FAULT 3 ahead of bits missing", rules, "01 0001 10 0000", 4, 3, 8, 1);
        edgeOfFault("17: FAULT 1 of a head ahead of its CODE", rules, "01 0000 10 01 100", 4, 1, 13, 2);
    }

    private static void faultStays() {
        String left = Edges.rules(2, 2, 2) + Edges.bits("01 0000 10 1") + "read(2) = FAULT ";
        String stays = Edges.dueFault(4, 8, 2);
        edge("17: stays, read() is OUTSIDE, too large", left, "read(65) = OUTSIDE", stays);
        edge("17: stays, read() is OUTSIDE, too small", left, "read(-1) = OUTSIDE", stays);
        edge("17: stays, the bit that was left went", left, "cut(8) = 1", stays);
        edge("17: stays, THE TAPE is empty", left, "cut(0) = 9", stays);
        edge("17: stays, bits more", left, "push(1) = 10 flip(0) = 1", stays);
        edge("17: stays, tape()", left, "add(1) tape() = 8", stays);
        edge("17: stays, rules and THE ROW", left, "rule(0, 8) rule(1, 1) rule(2, 1) add(200) clear() = 1", stays);
        edge("17: stays, an IMAGE is kept", left, "image(0) = 1", stays);
        edge("17: its place stays, FAULT 1, a bit more", "read(1) = FAULT push(0) = 1", Edges.dueFault(1, 0, 0));
        edge("17: another one in its place", left, "read(3) = FAULT", Edges.dueFault(1, 9, 2));
        edge("17: none stays, read() is OUTSIDE", "read(0) = 0 read(65) = OUTSIDE", Edges.dueNoFault());
    }

    private static void faultGoes() {
        String left = Edges.rules(2, 2, 2) + Edges.bits("01 0000 10 1") + "read(2) = FAULT ";
        edge("17: goes, a read() is done", left, "cut(8) = 1 read(2) = 2", Edges.dueNoFault());
        edge("17: goes, a read() of nothing is done", left, "cut(0) = 9 read(0) = 0", Edges.dueNoFault());
        edge("17: goes, then a read() is OUTSIDE", left, "cut(8) = 1 read(2) = 2 read(65) = OUTSIDE", Edges.dueNoFault());
        edge("17: goes and comes", left, "cut(8) = 1 read(2) = 2 push(0) = 9 read(2) = FAULT", Edges.dueFault(4, 8, 2));
    }

    private static String number(int n, int width) {
        String digits = Integer.toBinaryString(n);
        return "0".repeat(width - digits.length()) + digits;
    }
}
