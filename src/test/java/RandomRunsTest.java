import java.util.Random;

/** Runs of 512 calls, drawn from fixed seeds, on the class and on the Reference: all answers agree. */
public final class RandomRunsTest {
    private static final int RUNS = 400;
    // An object answers 512 calls; a step makes no more than twelve.
    private static final int CALLS = 512;
    private static final int CALLS_OF_A_STEP = 12;
    private static final int[] ODD = {Integer.MIN_VALUE, -7, -2, -1, 9, 10, 64, 65, 255, 256, 1000, Integer.MAX_VALUE};

    private final Checks checks;
    private final Random random;
    private final SensorTapes x = new SensorTapes();
    private final Reference y = new Reference();
    private final int seed;
    private int made;
    private final StringBuilder story = new StringBuilder();

    private RandomRunsTest(Checks checks, int seed) {
        this.checks = checks;
        this.seed = seed;
        random = new Random(seed);
    }

    public static void main(String[] args) {
        Checks checks = new Checks();
        for (int seed = 1; seed <= RUNS && !checks.anyWrong(); seed++) {
            new RandomRunsTest(checks, seed).run();
        }
        checks.end();
    }

    private void run() {
        while (made <= CALLS - CALLS_OF_A_STEP && !checks.anyWrong()) {
            step();
        }
        if (checks.anyWrong()) {
            System.out.println("seed " + seed + ":" + story);
        }
    }

    private void due(String call, int got, int want) {
        made++;
        story.append(' ').append(call);
        checks.due("seed " + seed + " " + call, got, want);
    }

    /** Mostly as told, now and then a number that fits nowhere. */
    private int number(int least, int most) {
        if (random.nextInt(25) == 0) {
            return ODD[random.nextInt(ODD.length)];
        }
        return most < least ? least : least + random.nextInt(most - least + 1);
    }

    private void step() {
        int kind = random.nextInt(100);
        if (kind < 14) {
            addSome();
        } else if (kind < 22) {
            change();
        } else if (kind < 34) {
            turnTape();
        } else if (kind < 46) {
            readBack();
        } else if (kind < 52) {
            images();
        } else {
            ask();
        }
    }

    private void addSome() {
        int top = (1 << y.count(5)) - 1;
        int many = 1 + random.nextInt(CALLS_OF_A_STEP);
        int slope = random.nextInt(7) - 3;
        int noise = random.nextInt(3) == 0 ? top : random.nextInt(3);
        int v = random.nextInt(top + 1);
        for (int i = 0; i < many; i++) {
            int n = number(v, v);
            due("add(" + n + ")", x.add(n), y.add(n));
            v += slope + random.nextInt(noise + 1) - noise / 2;
            v = Math.max(-1, Math.min(top + 1, v));
            if (random.nextInt(12) == 0) {
                v = random.nextBoolean() ? 0 : top;
            }
        }
    }

    private void change() {
        if (random.nextInt(6) == 0) {
            due("clear()", x.clear(), y.clear());
            return;
        }
        int what = number(0, 2);
        int n = number(1, 8);
        due("rule(" + what + ", " + n + ")", x.rule(what, n), y.rule(what, n));
    }

    private void turnTape() {
        int length = y.bit(-1);
        int kind = random.nextInt(7);
        if (kind == 0) {
            due("tape()", x.tape(), y.tape());
        } else if (kind < 3) {
            int i = number(0, length - 1);
            due("flip(" + i + ")", x.flip(i), y.flip(i));
        } else if (kind == 3) {
            int n = random.nextInt(3) == 0 ? number(0, length) : number(Math.max(0, length - 9), length);
            due("cut(" + n + ")", x.cut(n), y.cut(n));
        } else {
            pushSome();
        }
    }

    private void pushSome() {
        int many = 1 + random.nextInt(10);
        int ones = 1 + random.nextInt(6);
        for (int i = 0; i < many; i++) {
            int bit = number(0, 5) >= ones ? 0 : 1;
            bit = random.nextInt(40) == 0 ? number(0, 1) : bit;
            due("push(" + bit + ")", x.push(bit), y.push(bit));
        }
    }

    private void readBack() {
        int length = y.count(0);
        if (random.nextInt(3) == 0) {
            due("tape()", x.tape(), y.tape());
            if (random.nextInt(3) == 0) {
                int i = number(0, y.bit(-1) - 1);
                due("flip(" + i + ")", x.flip(i), y.flip(i));
            }
        }
        int n = random.nextInt(2) == 0 ? length : number(0, 64);
        due("read(" + n + ")", x.read(n), y.read(n));
        for (int what = 0; what < 3; what++) {
            due("fault(" + what + ")", x.fault(what), y.fault(what));
        }
        int i = number(0, 64);
        due("sample(" + i + ")", x.sample(i), y.sample(i));
    }

    private void images() {
        int k = number(0, 1);
        if (random.nextBoolean()) {
            due("image(" + k + ")", x.image(k), y.image(k));
        } else {
            due("restore(" + k + ")", x.restore(k), y.restore(k));
        }
    }

    private void ask() {
        int i = number(0, y.count(0));
        int b = number(0, y.count(1));
        int way = number(0, 3);
        switch (random.nextInt(9)) {
            case 0: {
                due("sample(" + i + ")", x.sample(i), y.sample(i));
                break;
            }
            case 1: {
                int what = number(0, 1);
                due("ahead(" + i + ", " + way + ", " + what + ")", x.ahead(i, way, what), y.ahead(i, way, what));
                break;
            }
            case 2: {
                int code = number(0, 8);
                due("cost(" + b + ", " + way + ", " + code + ")", x.cost(b, way, code), y.cost(b, way, code));
                break;
            }
            case 3: {
                int what = number(0, 5);
                due("block(" + b + ", " + what + ")", x.block(b, what), y.block(b, what));
                break;
            }
            case 4: {
                int at = number(-1, y.count(3));
                due("packed(" + at + ")", x.packed(at), y.packed(at));
                break;
            }
            case 5: {
                due("lost(" + b + ")", x.lost(b), y.lost(b));
                break;
            }
            case 6: {
                int at = number(-1, y.bit(-1));
                due("bit(" + at + ")", x.bit(at), y.bit(at));
                break;
            }
            case 7: {
                int what = number(0, 2);
                due("fault(" + what + ")", x.fault(what), y.fault(what));
                break;
            }
            default: {
                int what = number(0, 9);
                due("count(" + what + ")", x.count(what), y.count(what));
                break;
            }
        }
    }
}
