import java.util.ArrayList;
import java.util.List;

/**
 * The document once more, as plainly and slowly as can be: bits are texts, a FOLD is undone by
 * trying every SAMPLE, a COST is the length of what is written. It shares nothing with the class.
 * It is open, so that a test can break one sentence of it and see whether that is found.
 */
class Reference {
    static final int OUTSIDE = -2;
    static final int STATE = -3;
    static final int FULL = -4;
    static final int NONE = -6;
    static final int FAULT = -7;

    int[] rules = {8, 8, 4};
    List<Integer> row = new ArrayList<>();
    String tape = "";
    int[] fault = {0, NONE, NONE};
    final Reference[] images = new Reference[2];

    int top() {
        return (int) Math.pow(2, rules[0]) - 1;
    }

    int segmentOfSample(int i) {
        return i / rules[1] / rules[2];
    }

    boolean bare(int i) {
        return i == 0 || segmentOfSample(i) != segmentOfSample(i - 1);
    }

    int blocks() {
        return (int) Math.ceil(row.size() / (double) rules[1]);
    }

    List<Integer> samplesOf(int b) {
        List<Integer> numbers = new ArrayList<>();
        for (int i = 0; i < row.size(); i++) {
            if (i / rules[1] == b) {
                numbers.add(i);
            }
        }
        return numbers;
    }

    int told(List<Integer> samples, int i, int way) {
        int a = samples.get(i - 1);
        int b = i >= 2 && segmentOfSample(i - 2) == segmentOfSample(i) ? samples.get(i - 2) : a;
        if (way == 0) {
            return (top() + 1) / 2;
        }
        if (way == 1) {
            return a;
        }
        if (way == 3) {
            return (int) Math.floor((a + b) / 2.0);
        }
        int straight = a + a - b;
        if (straight < 0) {
            return 0;
        }
        return straight > top() ? top() : straight;
    }

    int fold(int v, int e) {
        int t = e < top() - e ? e : top() - e;
        if (e <= v && v <= e + t) {
            return 2 * (v - e);
        }
        if (e - t <= v && v <= e - 1) {
            return 2 * (e - v) - 1;
        }
        return t + (v > e ? v - e : e - v);
    }

    int unfold(int f, int e) {
        for (int v = 0; v <= top(); v++) {
            if (fold(v, e) == f) {
                return v;
            }
        }
        throw new IllegalStateException("no sample folds to " + f + " by " + e);
    }

    String number(int n, int width) {
        String text = "";
        for (int i = 0; i < width; i++) {
            text = n % 2 + text;
            n /= 2;
        }
        return text;
    }

    /** What a BLOCK is written as, or null. */
    String written(int b, int way, int code) {
        StringBuilder text = new StringBuilder(number(way, 2) + number(code, 4));
        for (int i : samplesOf(b)) {
            if (bare(i)) {
                text.append(number(row.get(i), rules[0]));
                continue;
            }
            int f = fold(row.get(i), told(row, i, way));
            if (code == 0 && f != 0) {
                return null;
            }
            if (code == 8) {
                text.append(number(f, rules[0]));
            }
            if (code >= 1 && code <= 7) {
                int power = 1 << code - 1;
                text.append("0".repeat(f / power)).append("1").append(number(f % power, code - 1));
            }
        }
        return code >= 1 && code <= 7 && code - 1 >= rules[0] ? null : text.toString();
    }

    /** WAY and CODE. */
    int[] choice(int b) {
        int[] best = null;
        int least = Integer.MAX_VALUE;
        for (int way = 3; way >= 0; way--) {
            for (int code = 8; code >= 0; code--) {
                String text = written(b, way, code);
                if (text != null && text.length() <= least) {
                    least = text.length();
                    best = new int[] {way, code};
                }
            }
        }
        return best;
    }

    String packedUpTo(int blocks) {
        StringBuilder text = new StringBuilder();
        for (int b = 0; b < blocks; b++) {
            int[] best = choice(b);
            text.append(written(b, best[0], best[1]));
        }
        return text.toString();
    }

    int rule(int what, int n) {
        if (what < 0 || what > 2 || n > 8 || n < 1 || what == 0 && n == 1) {
            return OUTSIDE;
        }
        for (int v : row) {
            if (what == 0 && v >= 1 << n) {
                return STATE;
            }
        }
        int was = rules[what];
        rules[what] = n;
        return was;
    }

    int add(int v) {
        if (v < 0 || v > top()) {
            return OUTSIDE;
        }
        if (row.size() == 64) {
            return FULL;
        }
        row.add(v);
        return row.size();
    }

    int clear() {
        int had = row.size();
        row = new ArrayList<>();
        return had;
    }

    int sample(int i) {
        return i < 0 || i >= row.size() ? NONE : row.get(i);
    }

    int ahead(int i, int way, int what) {
        if (way < 0 || way > 3 || what != 0 && what != 1) {
            return OUTSIDE;
        }
        if (i < 0 || i >= row.size() || bare(i)) {
            return NONE;
        }
        int e = told(row, i, way);
        return what == 0 ? e : fold(row.get(i), e);
    }

    int cost(int b, int way, int code) {
        if (way < 0 || way > 3 || code < 0 || code > 8) {
            return OUTSIDE;
        }
        if (b < 0 || b >= blocks()) {
            return NONE;
        }
        String text = written(b, way, code);
        return text == null ? NONE : text.length();
    }

    int block(int b, int what) {
        if (what < 0 || what > 5) {
            return OUTSIDE;
        }
        if (b < 0 || b >= blocks()) {
            return NONE;
        }
        int[] best = choice(b);
        int[] answers = {best[0], best[1], written(b, best[0], best[1]).length(),
            samplesOf(b).size(), packedUpTo(b).length(), b / rules[2]};
        return answers[what];
    }

    int packed(int i) {
        return bitOf(packedUpTo(blocks()), i);
    }

    private static int bitOf(String text, int i) {
        if (i < -1) {
            return OUTSIDE;
        }
        if (i == -1) {
            return text.length();
        }
        return i >= text.length() ? NONE : text.charAt(i) - '0';
    }

    int lost(int b) {
        if (b < 0 || b >= blocks()) {
            return NONE;
        }
        int gone = 0;
        for (int i = 0; i < row.size(); i++) {
            if (i / rules[1] >= b && segmentOfSample(i) == b / rules[2]) {
                gone++;
            }
        }
        return gone;
    }

    int tape() {
        tape = packedUpTo(blocks());
        return tape.length();
    }

    int push(int bit) {
        if (bit != 0 && bit != 1) {
            return OUTSIDE;
        }
        if (tape.length() == 1000) {
            return FULL;
        }
        tape += bit;
        return tape.length();
    }

    int flip(int i) {
        if (i < 0 || i >= tape.length()) {
            return OUTSIDE;
        }
        char turned = tape.charAt(i) == '0' ? '1' : '0';
        tape = tape.substring(0, i) + turned + tape.substring(i + 1);
        return turned - '0';
    }

    int cut(int n) {
        if (n < 0 || n > tape.length()) {
            return OUTSIDE;
        }
        int went = tape.length() - n;
        tape = tape.substring(0, n);
        return went;
    }

    int bit(int i) {
        return bitOf(tape, i);
    }

    int read(int n) {
        if (n < 0 || n > 64) {
            return OUTSIDE;
        }
        List<Integer> got = new ArrayList<>();
        fault = firstFault(n, got);
        if (fault[0] != 0) {
            return FAULT;
        }
        row = got;
        return n;
    }

    boolean isFaulty(int code) {
        return code > 8 || code >= 1 && code <= 7 && code - 1 >= rules[0];
    }

    int[] firstFault(int n, List<Integer> got) {
        int all = tape.length();
        int at = 0;
        int way = 0;
        int code = 0;
        for (int i = 0; i < n; i++) {
            if (i % rules[1] == 0) {
                if (at + 6 > all) {
                    return new int[] {1, all, i};
                }
                way = Integer.parseInt(tape.substring(at, at + 2), 2);
                code = Integer.parseInt(tape.substring(at + 2, at + 6), 2);
                if (isFaulty(code)) {
                    return new int[] {2, at, i};
                }
                at += 6;
            }
            int f = 0;
            if (bare(i) || code == 8) {
                if (at + rules[0] > all) {
                    return new int[] {1, all, i};
                }
                f = Integer.parseInt(tape.substring(at, at + rules[0]), 2);
                at += rules[0];
            } else if (code != 0) {
                int power = 1 << code - 1;
                String rest = tape.substring(at);
                if (rest.startsWith("0".repeat(top() / power + 1))) {
                    return new int[] {3, at, i};
                }
                int one = rest.indexOf('1');
                if (one < 0 || one + code > rest.length()) {
                    return new int[] {1, all, i};
                }
                f = one * power + Integer.parseInt("0" + rest.substring(one + 1, one + code), 2);
                if (f > top()) {
                    return new int[] {3, at, i};
                }
                at += one + code;
            }
            got.add(bare(i) ? f : unfold(f, told(got, i, way)));
        }
        return at < all ? new int[] {4, at, n} : new int[] {0, NONE, NONE};
    }

    int fault(int what) {
        return what < 0 || what > 2 ? OUTSIDE : fault[what];
    }

    int image(int k) {
        if (k != 0 && k != 1) {
            return OUTSIDE;
        }
        images[k] = new Reference();
        copy(this, images[k]);
        return 1;
    }

    int restore(int k) {
        if (k != 0 && k != 1) {
            return OUTSIDE;
        }
        if (images[k] == null) {
            return STATE;
        }
        copy(images[k], this);
        return 1;
    }

    private static void copy(Reference from, Reference to) {
        to.rules = from.rules.clone();
        to.row = new ArrayList<>(from.row);
        to.tape = from.tape;
        to.fault = from.fault.clone();
    }

    int count(int what) {
        switch (what) {
            case 0: return row.size();
            case 1: return blocks();
            case 2: return row.isEmpty() ? 0 : segmentOfSample(row.size() - 1) + 1;
            case 3: return packedUpTo(blocks()).length();
            case 4: return tape.length();
            case 5: return rules[0];
            case 6: return rules[1];
            case 7: return rules[2];
            case 8: return blocksOfNothing();
            case 9: return (images[0] == null ? 0 : 1) + (images[1] == null ? 0 : 2);
            default: return OUTSIDE;
        }
    }

    private int blocksOfNothing() {
        int found = 0;
        for (int b = 0; b < blocks(); b++) {
            found += choice(b)[1] == 0 ? 1 : 0;
        }
        return found;
    }
}
