import java.util.ArrayList;
import java.util.HashSet;
import java.util.List;
import java.util.Set;
import java.util.regex.Matcher;
import java.util.regex.Pattern;

/**
 * Boundary cases, each a short story of calls on a new object: "add(255) = 1 add(256) = OUTSIDE".
 * A call with "= answer" must answer so, and the Reference too. Wherever a refusal or NONE is due,
 * the rules, THE ROW, THE TAPE, the FAULT and what is PACKED, now and in both IMAGES, must be the
 * same with the call and without it.
 */
final class Edges {
    /** With WIDTH 4: what is TOLD AHEAD, the SAMPLE, its FOLD; at the ends of each of the three ranges. */
    static final int[][] FOLDS = {
        {5, 5, 0}, {5, 6, 2}, {5, 10, 10}, {5, 11, 11}, {5, 15, 15}, {5, 4, 1}, {5, 0, 9},
        {10, 10, 0}, {10, 11, 2}, {10, 15, 10}, {10, 9, 1}, {10, 5, 9}, {10, 4, 11}, {10, 0, 15},
        {0, 0, 0}, {0, 1, 1}, {0, 14, 14}, {0, 15, 15},
        {15, 15, 0}, {15, 14, 1}, {15, 1, 14}, {15, 0, 15},
        {7, 14, 14}, {7, 15, 15}, {7, 0, 13}, {7, 6, 1},
        {8, 15, 14}, {8, 1, 13}, {8, 0, 15}, {8, 9, 2},
        {1, 0, 1}, {1, 2, 2}, {1, 3, 3}, {14, 15, 2}, {14, 13, 1}, {14, 12, 3},
    };

    private static final int MOST_CALLS = 512;
    private static final int FAULT = -7;
    private static final Pattern CALL = Pattern.compile("(\\w+)\\(([^()]*)\\)(?:\\s*=\\s*([-\\w]+))?");

    private final Checks checks = new Checks();
    private final Set<String> titles = new HashSet<>();

    private record Call(String name, int[] args, Integer due) {
        Call(String name, int... args) {
            this(name, args, null);
        }

        private int arg(int i) {
            return args[i];
        }

        int on(SensorTapes x) {
            switch (name + " " + args.length) {
                case "rule 2": return x.rule(arg(0), arg(1));
                case "add 1": return x.add(arg(0));
                case "clear 0": return x.clear();
                case "sample 1": return x.sample(arg(0));
                case "ahead 3": return x.ahead(arg(0), arg(1), arg(2));
                case "cost 3": return x.cost(arg(0), arg(1), arg(2));
                case "block 2": return x.block(arg(0), arg(1));
                case "packed 1": return x.packed(arg(0));
                case "lost 1": return x.lost(arg(0));
                case "tape 0": return x.tape();
                case "push 1": return x.push(arg(0));
                case "flip 1": return x.flip(arg(0));
                case "cut 1": return x.cut(arg(0));
                case "bit 1": return x.bit(arg(0));
                case "read 1": return x.read(arg(0));
                case "fault 1": return x.fault(arg(0));
                case "image 1": return x.image(arg(0));
                case "restore 1": return x.restore(arg(0));
                case "count 1": return x.count(arg(0));
                default: throw new IllegalArgumentException("no call " + this);
            }
        }

        int on(Reference y) {
            switch (name) {
                case "rule": return y.rule(arg(0), arg(1));
                case "add": return y.add(arg(0));
                case "clear": return y.clear();
                case "sample": return y.sample(arg(0));
                case "ahead": return y.ahead(arg(0), arg(1), arg(2));
                case "cost": return y.cost(arg(0), arg(1), arg(2));
                case "block": return y.block(arg(0), arg(1));
                case "packed": return y.packed(arg(0));
                case "lost": return y.lost(arg(0));
                case "tape": return y.tape();
                case "push": return y.push(arg(0));
                case "flip": return y.flip(arg(0));
                case "cut": return y.cut(arg(0));
                case "bit": return y.bit(arg(0));
                case "read": return y.read(arg(0));
                case "fault": return y.fault(arg(0));
                case "image": return y.image(arg(0));
                case "restore": return y.restore(arg(0));
                case "count": return y.count(arg(0));
                default: throw new IllegalArgumentException("no call " + this);
            }
        }

        @Override
        public String toString() {
            StringBuilder text = new StringBuilder(name).append('(');
            for (int i = 0; i < args.length; i++) {
                text.append(i == 0 ? "" : ", ").append(args[i]);
            }
            return text.append(')').toString();
        }
    }

    /** One boundary case; the title says which, and no two cases bear the same. */
    void edge(String title, String... parts) {
        checks.due(title + ": a title of its own", titles.add(title) ? 1 : 0, 1);
        List<Call> story = callsOf(String.join(" ", parts));
        checks.due(title + ": calls beyond " + MOST_CALLS, Math.max(0, story.size() - MOST_CALLS), 0);
        SensorTapes x = new SensorTapes();
        Reference y = new Reference();
        int asked = 0;
        for (int i = 0; i < story.size(); i++) {
            Call call = story.get(i);
            int got = call.on(x);
            int other = call.on(y);
            if (call.due() == null) {
                continue;
            }
            asked++;
            checks.due(title + ": call " + i + ", " + call, got, call.due());
            checks.due(title + ": the Reference, call " + i + ", " + call, other, call.due());
            if (call.due() < 0) {
                dueUnchanged(title, story.subList(0, i), call);
            }
        }
        checks.due(title + ": asks something", asked > 0 ? 1 : 0, 1);
    }

    /** Whether a Reference, it may be a broken one, answers a story as due. */
    static boolean holdsFor(Reference y, String... parts) {
        boolean holds = true;
        for (Call call : callsOf(String.join(" ", parts))) {
            int got = call.on(y);
            holds &= call.due() == null || got == call.due();
        }
        return holds;
    }

    void due(String title, int got, int want) {
        checks.due(title, got, want);
    }

    void end() {
        System.out.println(titles.size() + " cases");
        checks.end();
    }

    // ---- the same with a call and without it

    private void dueUnchanged(String title, List<Call> before, Call refused) {
        boolean isFault = refused.due() == FAULT;
        for (int scene = -1; scene <= 1; scene++) {
            List<Call> without = new ArrayList<>(before);
            List<Call> with = new ArrayList<>(before);
            with.add(refused);
            if (scene >= 0) {
                without.add(new Call("restore", scene));
                with.add(new Call("restore", scene));
            }
            // What is told of the FAULT is all that a FAULT changes; an IMAGE brings back the one that it kept.
            boolean faultToo = !isFault || scene >= 0 && wasKept(before, scene);
            List<Call> questions = questionsBehind(without, faultToo);
            int[] due = answers(without, questions);
            int[] got = answers(with, questions);
            for (int i = 0; i < due.length; i++) {
                String where = scene < 0 ? "" : " in IMAGE " + scene;
                checks.due(title + ": " + refused + " changed " + questions.get(i) + where, got[i], due[i]);
            }
        }
    }

    private static boolean wasKept(List<Call> before, int k) {
        return before.stream().anyMatch(call -> call.name().equals("image") && call.arg(0) == k);
    }

    private static List<Call> questionsBehind(List<Call> story, boolean faultToo) {
        SensorTapes x = new SensorTapes();
        story.forEach(call -> call.on(x));
        int samples = x.count(0);
        int blocks = x.count(1);
        int packed = x.count(3);
        int tape = x.count(4);
        List<Call> questions = new ArrayList<>();
        for (int what = 0; what <= 9; what++) {
            questions.add(new Call("count", what));
        }
        for (int what = 0; what <= 2 && faultToo; what++) {
            questions.add(new Call("fault", what));
        }
        for (int i = 0; i <= samples; i++) {
            questions.add(new Call("sample", i));
            questions.add(new Call("ahead", i, i % 4, 1));
        }
        for (int b = 0; b <= blocks; b++) {
            questions.add(new Call("block", b, b % 6));
            questions.add(new Call("lost", b));
        }
        for (int i = -1; i <= tape; i++) {
            questions.add(new Call("bit", i));
        }
        for (int i = -1; i <= packed; i++) {
            questions.add(new Call("packed", i));
        }
        return questions;
    }

    /** An object is asked no more than it promises to answer; then a new one is brought to the same place. */
    private static int[] answers(List<Call> story, List<Call> questions) {
        int[] answers = new int[questions.size()];
        int room = Math.max(1, MOST_CALLS - story.size());
        for (int from = 0; from < answers.length; from += room) {
            SensorTapes x = new SensorTapes();
            story.forEach(call -> call.on(x));
            for (int i = from; i < Math.min(answers.length, from + room); i++) {
                answers[i] = questions.get(i).on(x);
            }
        }
        return answers;
    }

    // ---- stories as texts

    private static List<Call> callsOf(String text) {
        List<Call> calls = new ArrayList<>();
        Matcher m = CALL.matcher(text);
        int end = 0;
        while (m.find()) {
            refuseText(text.substring(end, m.start()));
            end = m.end();
            String[] parts = m.group(2).isBlank() ? new String[0] : m.group(2).split(",");
            int[] args = new int[parts.length];
            for (int i = 0; i < parts.length; i++) {
                args[i] = numberOf(parts[i].trim());
            }
            calls.add(new Call(m.group(1), args, m.group(3) == null ? null : numberOf(m.group(3))));
        }
        refuseText(text.substring(end));
        return calls;
    }

    /** What is not understood must not be passed over. */
    private static void refuseText(String text) {
        if (!text.isBlank()) {
            throw new IllegalArgumentException("no call: " + text);
        }
    }

    private static int numberOf(String text) {
        switch (text) {
            case "OUTSIDE": return -2;
            case "STATE": return -3;
            case "FULL": return -4;
            case "NONE": return -6;
            case "FAULT": return FAULT;
            case "LEAST": return Integer.MIN_VALUE;
            case "GREATEST": return Integer.MAX_VALUE;
            default: return Integer.parseInt(text);
        }
    }

    static String times(int n, String story) {
        return (story + " ").repeat(n);
    }

    static String rules(int width, int size, int every) {
        return "rule(0, " + width + ") rule(1, " + size + ") rule(2, " + every + ") ";
    }

    static String adds(int... samples) {
        StringBuilder text = new StringBuilder();
        for (int v : samples) {
            text.append("add(").append(v).append(") ");
        }
        return text.toString();
    }

    /** Bits pushed onto THE TAPE; blanks are for the eye. */
    static String bits(String bits) {
        StringBuilder text = new StringBuilder();
        for (char c : bits.replace(" ", "").toCharArray()) {
            text.append("push(").append(c).append(") ");
        }
        return text.toString();
    }

    static String dueRow(int... samples) {
        StringBuilder text = new StringBuilder("count(0) = " + samples.length + " ");
        for (int i = 0; i < samples.length; i++) {
            text.append("sample(").append(i).append(") = ").append(samples[i]).append(' ');
        }
        return text.toString();
    }

    static String dueTape(String bits) {
        return dueBits("bit", bits);
    }

    static String duePacked(String bits) {
        return dueBits("packed", bits);
    }

    private static String dueBits(String call, String bits) {
        String all = bits.replace(" ", "");
        StringBuilder text = new StringBuilder(call + "(-1) = " + all.length() + " ");
        for (int i = 0; i < all.length(); i++) {
            text.append(call).append('(').append(i).append(") = ").append(all.charAt(i)).append(' ');
        }
        return text.toString();
    }

    static String dueFault(int number, int place, int samples) {
        return "fault(0) = " + number + " fault(1) = " + place + " fault(2) = " + samples + " ";
    }

    static String dueNoFault() {
        return "fault(0) = 0 fault(1) = NONE fault(2) = NONE ";
    }
}
