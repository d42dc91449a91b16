/** Rows of a sensor packed without loss. */
public final class SensorTapes {
    public static final int OUTSIDE = -2, STATE = -3, FULL = -4, NONE = -6, FAULT = -7;

    private static final int MOST_SAMPLES = 64;
    private static final int MOST_BITS = 1000;
    private static final int MOST_SIZE = 8;
    private static final int MOST_RULE = 8;
    private static final int LEAST_WIDTH = 2;
    private static final int IMAGES = 2;

    private static final int WAYS = 4;
    private static final int WAY_BITS = 2;
    private static final int CODE_BITS = 4;
    private static final int CODE_NOTHING = 0;
    private static final int CODE_PLAIN = 8;

    private static final int FAULT_NO_BIT = 1;
    private static final int FAULT_CODE = 2;
    private static final int FAULT_FOLD = 3;
    private static final int FAULT_LEFT = 4;

    private final Held now = new Held();
    private final Held[] images = {new Held(), new Held()};
    private int imagesKept;
    private final Packer packer = new Packer();
    private final Reader reader = new Reader();

    public SensorTapes() {
    }

    // ---- 1 the row

    public int rule(int what, int n) {
        if (what < 0 || what > 2) {
            return OUTSIDE;
        }
        int least = what == 0 ? LEAST_WIDTH : 1;
        if (n < least || n > MOST_RULE) {
            return OUTSIDE;
        }
        if (what == 0 && now.row.highest() > topOf(n)) {
            return STATE;
        }
        int was = now.rules.value(what);
        now.rules.change(what, n);
        packer.keepOnly(0);
        return was;
    }

    public int add(int v) {
        if (v < 0 || v > now.rules.top()) {
            return OUTSIDE;
        }
        if (now.row.length >= MOST_SAMPLES) {
            return FULL;
        }
        packer.keepOnly(now.rules.blockWith(now.row.length));
        now.row.append(v);
        return now.row.length;
    }

    public int clear() {
        int had = now.row.length;
        now.row.length = 0;
        packer.keepOnly(0);
        return had;
    }

    public int sample(int i) {
        return now.row.at(i);
    }

    public int ahead(int i, int way, int what) {
        if (!isWay(way) || what < 0 || what > 1) {
            return OUTSIDE;
        }
        if (!now.row.has(i) || now.rules.isBare(i)) {
            return NONE;
        }
        int told = toldAhead(now.rules, now.row, i, way);
        return what == 0 ? told : fold(now.row.at(i), told, now.rules.top());
    }

    // ---- 2 blocks

    public int cost(int b, int way, int code) {
        if (!isWay(way) || code < CODE_NOTHING || code > CODE_PLAIN) {
            return OUTSIDE;
        }
        return hasBlock(b) ? packer.costOf(now.rules, now.row, b, way, code) : NONE;
    }

    public int block(int b, int what) {
        if (what < 0 || what > 5) {
            return OUTSIDE;
        }
        if (!hasBlock(b)) {
            return NONE;
        }
        packer.settle(now.rules, now.row, b + 1);
        switch (what) {
            case 0:
                return packer.ways[b];
            case 1:
                return packer.codes[b];
            case 2:
                return packer.firsts[b + 1] - packer.firsts[b];
            case 3:
                return now.rules.endOfBlock(b, now.row.length) - b * now.rules.size;
            case 4:
                return packer.firsts[b];
            default:
                return quotient(b, now.rules.every);
        }
    }

    public int packed(int i) {
        if (i < -1) {
            return OUTSIDE;
        }
        settleAll();
        return i == -1 ? packer.bits.length : packer.bits.at(i);
    }

    public int lost(int b) {
        if (!hasBlock(b)) {
            return NONE;
        }
        int segment = quotient(b, now.rules.every);
        int end = Math.min(now.row.length, (segment + 1) * now.rules.segmentSize());
        return end - b * now.rules.size;
    }

    // ---- 3 the tape

    public int tape() {
        settleAll();
        now.tape.takeOver(packer.bits);
        return now.tape.length;
    }

    public int push(int bit) {
        if (bit < 0 || bit > 1) {
            return OUTSIDE;
        }
        if (now.tape.length >= MOST_BITS) {
            return FULL;
        }
        now.tape.append(bit);
        return now.tape.length;
    }

    public int flip(int i) {
        return now.tape.has(i) ? now.tape.turn(i) : OUTSIDE;
    }

    public int cut(int n) {
        if (n < 0 || n > now.tape.length) {
            return OUTSIDE;
        }
        int went = now.tape.length - n;
        now.tape.length = n;
        return went;
    }

    public int bit(int i) {
        if (i < -1) {
            return OUTSIDE;
        }
        return i == -1 ? now.tape.length : now.tape.at(i);
    }

    public int read(int n) {
        if (n < 0 || n > MOST_SAMPLES) {
            return OUTSIDE;
        }
        reader.takeAll(now.rules, now.tape, n);
        now.fault.takeOver(reader.fault);
        if (reader.fault.isTold()) {
            return FAULT;
        }
        now.row.takeOver(reader.row);
        packer.keepOnly(0);
        return n;
    }

    public int fault(int what) {
        switch (what) {
            case 0:
                return now.fault.number;
            case 1:
                return now.fault.place;
            case 2:
                return now.fault.samples;
            default:
                return OUTSIDE;
        }
    }

    // ---- 4 images

    public int image(int k) {
        if (!isImage(k)) {
            return OUTSIDE;
        }
        images[k].takeOver(now);
        imagesKept |= 1 << k;
        return 1;
    }

    public int restore(int k) {
        if (!isImage(k)) {
            return OUTSIDE;
        }
        if ((imagesKept >> k & 1) == 0) {
            return STATE;
        }
        now.takeOver(images[k]);
        packer.keepOnly(0);
        return 1;
    }

    public int count(int what) {
        switch (what) {
            case 0:
                return now.row.length;
            case 1:
                return blocks();
            case 2:
                return quotientUp(now.row.length, now.rules.segmentSize());
            case 3:
                settleAll();
                return packer.bits.length;
            case 4:
                return now.tape.length;
            case 5:
            case 6:
            case 7:
                return now.rules.value(what - 5);
            case 8:
                settleAll();
                return packer.settledWith(CODE_NOTHING);
            case 9:
                return imagesKept;
            default:
                return OUTSIDE;
        }
    }

    // ---- what the calls share

    private int blocks() {
        return quotientUp(now.row.length, now.rules.size);
    }

    private boolean hasBlock(int b) {
        return b >= 0 && b < blocks();
    }

    private void settleAll() {
        packer.settle(now.rules, now.row, blocks());
    }

    private static boolean isWay(int way) {
        return way >= 0 && way < WAYS;
    }

    private static boolean isImage(int k) {
        return k >= 0 && k < IMAGES;
    }

    private static int topOf(int width) {
        return (1 << width) - 1;
    }

    // SIZE and EVERY are never below 1; the test keeps that from having to be known here.
    private static int quotient(int n, int by) {
        return by < 1 ? 0 : n / by;
    }

    private static int quotientUp(int n, int by) {
        return quotient(n + by - 1, by);
    }

    /** Only for a SAMPLE that is not BARE: one of its SEGMENT stands before it. */
    private static int toldAhead(Rules rules, Row row, int i, int way) {
        int top = topOf(rules.width);
        int a = row.at(i - 1);
        int b = rules.isBare(i - 1) ? a : row.at(i - 2);
        switch (way) {
            case 0:
                return (top + 1) / 2;
            case 1:
                return a;
            case 2:
                return Math.max(0, Math.min(top, 2 * a - b));
            default:
                return (a + b) / 2;
        }
    }

    private static int fold(int v, int told, int top) {
        int t = Math.min(told, top - told);
        if (v >= told && v <= told + t) {
            return 2 * (v - told);
        }
        if (v < told && v >= told - t) {
            return 2 * (told - v) - 1;
        }
        return t + Math.abs(v - told);
    }

    private static int unfold(int folded, int told, int top) {
        int t = Math.min(told, top - told);
        if (folded > 2 * t) {
            // Only one side of what was told has room for more than t, the one that t was not taken from.
            return told < top - told ? told + (folded - t) : told - (folded - t);
        }
        return folded % 2 == 0 ? told + folded / 2 : told - (folded + 1) / 2;
    }

    private static boolean isCode(int code, int width) {
        if (code == CODE_NOTHING || code == CODE_PLAIN) {
            return true;
        }
        return code > CODE_NOTHING && code < CODE_PLAIN && code - 1 < width;
    }

    /** WIDTH, SIZE and EVERY, and how they part a row. */
    private static final class Rules {
        int width = 8;
        int size = 8;
        int every = 4;

        int top() {
            return topOf(width);
        }

        int segmentSize() {
            return size * every;
        }

        boolean isBare(int i) {
            int segment = size * every;
            return segment < 1 || i % segment == 0;
        }

        int blockWith(int i) {
            return quotient(i, size);
        }

        int endOfBlock(int b, int samples) {
            return Math.min(samples, (b + 1) * size);
        }

        int value(int what) {
            if (what == 0) {
                return width;
            }
            return what == 1 ? size : every;
        }

        void change(int what, int n) {
            if (what == 0) {
                width = n;
            } else if (what == 1) {
                size = n;
            } else {
                every = n;
            }
        }

        void takeOver(Rules other) {
            width = other.width;
            size = other.size;
            every = other.every;
        }
    }

    /** SAMPLES, one behind the other. */
    private static final class Row {
        final int[] samples = new int[MOST_SAMPLES];
        int length;

        boolean has(int i) {
            return i >= 0 && i < length;
        }

        int at(int i) {
            return i >= 0 && i < length ? samples[i] : NONE;
        }

        void append(int v) {
            if (length < MOST_SAMPLES) {
                samples[length] = v;
                length++;
            }
        }

        int highest() {
            int most = 0;
            for (int i = 0; i < length; i++) {
                most = Math.max(most, samples[i]);
            }
            return most;
        }

        void takeOver(Row other) {
            System.arraycopy(other.samples, 0, samples, 0, other.length);
            length = other.length;
        }
    }

    /** Bits, one behind the other: THE TAPE, or what is PACKED. */
    private static final class Bits {
        final int[] bits = new int[MOST_BITS];
        int length;

        boolean has(int i) {
            return i >= 0 && i < length;
        }

        int at(int i) {
            return i >= 0 && i < length ? bits[i] : NONE;
        }

        int turn(int i) {
            if (!has(i)) {
                return NONE;
            }
            bits[i] = 1 - bits[i];
            return bits[i];
        }

        void append(int bit) {
            if (length < MOST_BITS) {
                bits[length] = bit;
                length++;
            }
        }

        void appendNumber(int n, int width) {
            for (int shift = width - 1; shift >= 0; shift--) {
                append(n >> shift & 1);
            }
        }

        void takeOver(Bits other) {
            System.arraycopy(other.bits, 0, bits, 0, other.length);
            length = other.length;
        }
    }

    /** What read() told last. */
    private static final class Fault {
        int number = 0;
        int place = NONE;
        int samples = NONE;

        boolean isTold() {
            return number != 0;
        }

        void forget() {
            number = 0;
            place = NONE;
            samples = NONE;
        }

        void takeOver(Fault other) {
            number = other.number;
            place = other.place;
            samples = other.samples;
        }
    }

    /** All that an IMAGE keeps. */
    private static final class Held {
        final Rules rules = new Rules();
        final Row row = new Row();
        final Bits tape = new Bits();
        final Fault fault = new Fault();

        void takeOver(Held other) {
            rules.takeOver(other.rules);
            row.takeOver(other.row);
            tape.takeOver(other.tape);
            fault.takeOver(other.fault);
        }
    }

    /** One BLOCK by one WAY, ready to be weighed and written by any CODE. */
    private static final class Folded {
        final int[] folds = new int[MOST_SIZE];
        int length;
        int way;
        int width;
        boolean hasBare;
        int bare;

        void fill(Rules rules, Row row, int b, int newWay) {
            int first = b * rules.size;
            int end = rules.endOfBlock(b, row.length);
            way = newWay;
            width = rules.width;
            hasBare = rules.isBare(first);
            bare = row.at(first);
            length = 0;
            for (int i = hasBare ? first + 1 : first; i < end && length < MOST_SIZE; i++) {
                folds[length] = fold(row.at(i), toldAhead(rules, row, i, way), rules.top());
                length++;
            }
        }

        int costBy(int code) {
            if (!isCode(code, width) || code == CODE_NOTHING && !isAllNothing()) {
                return NONE;
            }
            int bits = WAY_BITS + CODE_BITS + (hasBare ? width : 0);
            if (code == CODE_NOTHING) {
                return bits;
            }
            if (code == CODE_PLAIN) {
                return bits + length * width;
            }
            int k = code - 1;
            for (int i = 0; i < length; i++) {
                bits += (folds[i] >> k) + 1 + k;
            }
            return bits;
        }

        boolean isAllNothing() {
            for (int i = 0; i < length; i++) {
                if (folds[i] != 0) {
                    return false;
                }
            }
            return true;
        }

        void write(Bits out, int code) {
            out.appendNumber(way, WAY_BITS);
            out.appendNumber(code, CODE_BITS);
            if (hasBare) {
                out.appendNumber(bare, width);
            }
            if (code == CODE_NOTHING) {
                return;
            }
            for (int i = 0; i < length; i++) {
                if (code == CODE_PLAIN) {
                    out.appendNumber(folds[i], width);
                } else {
                    writeByNoughts(out, folds[i], code - 1);
                }
            }
        }

        void writeByNoughts(Bits out, int folded, int k) {
            int noughts = folded >> k;
            for (int i = 0; i < noughts; i++) {
                out.append(0);
            }
            out.append(1);
            out.appendNumber(folded, k);
        }
    }

    /**
     * THE CHOICES and what is PACKED. A BLOCK depends on no later SAMPLE, so the BLOCKS that are
     * settled stay so until something in them, or a rule, changes.
     */
    private static final class Packer {
        final int[] ways = new int[MOST_SAMPLES];
        final int[] codes = new int[MOST_SAMPLES];
        // The end of each BLOCK is the next one's first bit, so there is one entry more than BLOCKS.
        final int[] firsts = new int[MOST_SAMPLES + 1];
        final Bits bits = new Bits();
        final Folded folded = new Folded();
        int settled;

        void keepOnly(int blocks) {
            if (blocks >= 0 && blocks < settled) {
                settled = blocks;
                bits.length = firsts[blocks];
            }
        }

        void settle(Rules rules, Row row, int blocks) {
            int end = Math.min(blocks, MOST_SAMPLES);
            for (int b = settled; b < end; b++) {
                choose(rules, row, b);
                folded.fill(rules, row, b, ways[b]);
                folded.write(bits, codes[b]);
                firsts[b + 1] = bits.length;
                settled = b + 1;
            }
        }

        /** Ways and codes rise, so only a lesser cost may take the place of an earlier choice. */
        void choose(Rules rules, Row row, int b) {
            int least = NONE;
            for (int way = 0; way < WAYS; way++) {
                folded.fill(rules, row, b, way);
                for (int code = CODE_NOTHING; code <= CODE_PLAIN; code++) {
                    int bitsWanted = folded.costBy(code);
                    if (bitsWanted != NONE && (least == NONE || bitsWanted < least)) {
                        least = bitsWanted;
                        ways[b] = way;
                        codes[b] = code;
                    }
                }
            }
        }

        int costOf(Rules rules, Row row, int b, int way, int code) {
            folded.fill(rules, row, b, way);
            return folded.costBy(code);
        }

        int settledWith(int code) {
            int found = 0;
            for (int b = 0; b < settled; b++) {
                if (codes[b] == code) {
                    found++;
                }
            }
            return found;
        }
    }

    /** Reads a tape into a row of its own, so that a FAULT leaves THE ROW as it was. */
    private static final class Reader {
        final Row row = new Row();
        final Fault fault = new Fault();
        int next;

        void takeAll(Rules rules, Bits tape, int n) {
            row.length = 0;
            next = 0;
            fault.forget();
            int blocks = quotientUp(n, rules.size);
            for (int b = 0; b < blocks && !fault.isTold(); b++) {
                takeBlock(rules, tape, rules.endOfBlock(b, n));
            }
            if (!fault.isTold() && next < tape.length) {
                fail(FAULT_LEFT, next);
            }
        }

        void takeBlock(Rules rules, Bits tape, int end) {
            int first = next;
            int head = takeNumber(tape, WAY_BITS + CODE_BITS);
            if (fault.isTold()) {
                return;
            }
            int way = head >> CODE_BITS;
            int code = head & topOf(CODE_BITS);
            if (!isCode(code, rules.width)) {
                fail(FAULT_CODE, first);
                return;
            }
            for (int i = row.length; i < end; i++) {
                int v = rules.isBare(i) ? takeNumber(tape, rules.width) : takeTold(rules, tape, way, code);
                if (fault.isTold()) {
                    return;
                }
                row.append(v);
            }
        }

        int takeTold(Rules rules, Bits tape, int way, int code) {
            int folded = 0;
            if (code == CODE_PLAIN) {
                folded = takeNumber(tape, rules.width);
            } else if (code != CODE_NOTHING) {
                folded = takeByNoughts(tape, rules.width, code - 1);
            }
            if (fault.isTold()) {
                return NONE;
            }
            return unfold(folded, toldAhead(rules, row, row.length, way), rules.top());
        }

        /** With no nought too many a FOLD is never above TOP, for TOP has ones alone. */
        int takeByNoughts(Bits tape, int width, int k) {
            int most = topOf(width) >> k;
            int noughts = 0;
            while (noughts <= most && tape.at(next + noughts) == 0) {
                noughts++;
            }
            if (noughts > most) {
                return fail(FAULT_FOLD, next);
            }
            if (!tape.has(next + noughts)) {
                return fail(FAULT_NO_BIT, tape.length);
            }
            next += noughts + 1;
            int rest = takeNumber(tape, k);
            return fault.isTold() ? NONE : (noughts << k) + rest;
        }

        int takeNumber(Bits tape, int width) {
            if (width > tape.length - next) {
                return fail(FAULT_NO_BIT, tape.length);
            }
            int n = 0;
            for (int i = 0; i < width; i++) {
                n = 2 * n + tape.at(next + i);
            }
            next += width;
            return n;
        }

        int fail(int number, int place) {
            fault.number = number;
            fault.place = place;
            fault.samples = row.length;
            return NONE;
        }
    }
}
