import java.lang.reflect.InvocationTargetException;
import java.lang.reflect.Method;
import java.util.ArrayList;
import java.util.HashMap;
import java.util.HashSet;
import java.util.List;
import java.util.Map;
import java.util.Random;
import java.util.Set;

/**
 * Long runs of calls, made by a fixed seed, on a new ShareNets and a new Reference: each answer must be the same.
 * In runs of pairs each call follows on each other one. Arguments: how many runs; the seed of the first run.
 */
public final class RunsTest {
    private static final int ROUNDS_OF_ALL_PAIRS = 6, MOST_ROUNDS_OF_PAIRS = 200;
    private static final int[] ALL_FORMS = {0, 1, 3, 7, 11, 12, 13, 15, 30, 31, 63};
    private static final int[] WILD = {Integer.MIN_VALUE, Integer.MIN_VALUE + 1, -100, -11, -2, -1, 4, 5, 6, 8, 10, 11,
        14, 40, 41, 63, 64, 100, 160, 10000, Integer.MAX_VALUE - 9, Integer.MAX_VALUE};
    private static final String[] WORDS = {"posts", "road", "all", "ring", ";", "0", "1", "2", "3", "9", "10", "11", "001",
        "rings", "a", ",", "A", "\t", "-", "\u00e9", "\u0000", "00", "03", "posts 3;", "posts 10;", "road 0 1", "all 0 1 2"};

    /** What each argument is like: a letter per argument, see number(). */
    private static final String[][] CALLS = {
        {"feed", "8e"}, {"read", "n"}, {"posts", "nP"}, {"road", "nppb"}, {"netOf", "nw"}, {"rows", "ns"}, {"turn", "n"},
        {"same", "nn"}, {"form", "mc"}, {"formAt", "mi"}, {"count", "nmf"}, {"share", "nmfh"}, {"lift", "mfmfh"},
        {"out", "mfb"}, {"free", "n"}, {"heap", "m"}, {"most", "kmf"}, {"part", "d"}, {"chance", "qqv"}, {"bare", ""},
        {"at", "mfh"}, {"freeAt", ""}, {"blow", "n"}, {"near", "nP"}, {"mixed", "nv"}, {"draw", "nm"}, {"seed", "x"},
        {"add", "vab"}, {"shareOf", "Sv"}, {"weight", "SW"}, {"gives", "Sv"}, {"value", "Snh"}, {"valueAt", "Sh"},
        {"bound", "2fh"}, {"slack", "2fvh"}, {"tight", "2f"}, {"met", "2f"}, {"prove", "nm"}, {"row", "ih"},
        {"alterRow", "ihr"}, {"judge", "nm"}, {"sheet", "stl"}, {"put", "slx"}, {"item", "stl"}, {"shelf", "svS"},
        {"taken", "sT"}, {"act", "svx"}, {"trace", "i"}, {"many", "S"}, {"keep", ""}, {"again", ""}};

    /** Calls that mean something to each other; a run keeps to some of these rows, so that they meet often. */
    private static final String[] MOODS = {
        "feed read posts road netOf turn same rows sheet put keep again",
        "form formAt count share lift out free heap most posts road mixed turn",
        "part chance at freeAt blow near out bare part chance chance at draw seed mixed posts",
        "add weight weight gives value valueAt shareOf part chance mixed posts near add blow keep again",
        "add weight weight bound slack tight met out blow part chance met keep again tight",
        "prove row alterRow judge judge mixed posts prove row alterRow many road turn",
        "sheet put item put item shelf taken sheet rows posts netOf many taken",
        "add shelf act trace taken act trace act trace shelf many keep again act trace taken"};

    /** The first one takes away what the second needs. */
    private static final Set<String> NEVER_BOTH = Set.of("read read", "bare chance", "bare at", "bare freeAt", "bare near", "bare valueAt", "bare met");

    private static final Map<String, String> KINDS = new HashMap<>();

    static {
        for (String[] one : CALLS) {
            KINDS.put(one[0], one[1]);
        }
    }

    private final Random random;
    private final Check check;
    private final Map<String, Method> real = new HashMap<>();
    private final Map<String, Method> model = new HashMap<>();
    private ShareNets nets;
    private Reference reference;
    private int run;
    private int calls;
    private List<String> log = new ArrayList<>();
    private final Map<String, Integer> refused = new HashMap<>();
    private final Map<String, Integer> answered = new HashMap<>();

    /** Pairs of calls, the second right after the first, neither of which answered below 0. */
    private final Set<String> followed = new HashSet<>();
    private String before;

    private RunsTest(Random random, Check check) {
        this.random = random;
        this.check = check;
        for (Method m : ShareNets.class.getDeclaredMethods()) {
            real.put(m.getName(), m);
        }
        for (Method m : Reference.class.getDeclaredMethods()) {
            if (java.lang.reflect.Modifier.isPublic(m.getModifiers())) {
                model.put(m.getName(), m);
            }
        }
    }

    public static void main(String[] args) throws Exception {
        int runs = args.length > 0 ? Integer.parseInt(args[0]) : 400;
        int seed = args.length > 1 ? Integer.parseInt(args[1]) : 1;
        Check check = new Check("RunsTest");
        RunsTest test = new RunsTest(new Random(seed), check);
        for (int run = seed; run < seed + runs && check.wrong() == 0; run++) {
            test.random.setSeed(run);
            test.runOnce(run);
        }
        for (int round = 0; round < MOST_ROUNDS_OF_PAIRS && check.wrong() == 0; round++) {
            test.random.setSeed(seed + round);
            test.runPairs(seed + round, round < ROUNDS_OF_ALL_PAIRS);
        }
        if (args.length > 0) {
            for (String[] call : CALLS) {
                System.out.println(call[0] + ": " + test.answered.get(call[0]) + " answered, " + test.refused.get(call[0]) + " below 0");
            }
        }
        if (check.wrong() == 0) {
            test.checkPairs();
        }
        check.end();
    }

    private void checkPairs() {
        for (String[] first : CALLS) {
            for (String[] second : CALLS) {
                String pair = first[0] + " " + second[0];
                check.isTrue("one follows on the other, and both are taken: " + pair, followed.contains(pair) != NEVER_BOTH.contains(pair));
            }
        }
    }

    private void begin(int number) {
        run = number;
        calls = 0;
        log.clear();
        before = null;
        nets = new ShareNets();
        reference = new Reference();
    }

    /** Every call right after every call, itself too, in an order by the seed; or those pairs alone that are still missing. */
    private void runPairs(int number, boolean all) throws Exception {
        List<String[]> pairs = new ArrayList<>();
        for (String[] first : CALLS) {
            for (String[] second : CALLS) {
                String pair = first[0] + " " + second[0];
                if (all || !followed.contains(pair) && !NEVER_BOTH.contains(pair)) {
                    pairs.add(new String[] {first[0], second[0]});
                }
            }
        }
        java.util.Collections.shuffle(pairs, random);
        calls = 512;
        for (String[] pair : pairs) {
            if (calls > 500) {
                begin(number);
                setUpScene();
            }
            prepare(pair);
            call(pair[0], arguments(pair[0], KINDS.get(pair[0]), 1000));
            call(pair[1], arguments(pair[1], KINDS.get(pair[1]), 1000));
        }
    }

    /** What either call of a pair needs and earlier ones have taken away. */
    private void prepare(String[] pair) throws Exception {
        if (reference.s.weights.isEmpty()) {
            call("part", 3);
        }
        if (reference.s.shares.isEmpty()) {
            call("add", 2, 1, -1);
        }
        if (reference.proved.isEmpty()) {
            call("prove", 3, 1);
        }
        if ((pair[0] + pair[1]).contains("read")) {
            call("read", 0);
            call("feed", Check.eight("posts 4;", 0, 8), 8);
        }
    }

    /** Something of each sort, so that calls find what they ask for. */
    private void setUpScene() throws Exception {
        for (int i = 0; i < 4; i++) {
            call("posts", i, 3 + i);
            call("mixed", i, 2);
            call("add", i, 2, 1);
            call("weight", i, 1 + i);
            call("sheet", i, i, 4);
            call("shelf", i, i / 3, i);
        }
        call("part", 1);
        call("part", 2);
        call("chance", 0, 1, 4);
        call("chance", 1, 1, 1);
        call("out", 4, 63, true);
        call("prove", 2, 3);
        call("act", 2, 1, 5);
        call("keep");
    }

    private void runOnce(int number) throws Exception {
        begin(number);
        int wildness = random.nextInt(4) == 0 ? 3 : 40;
        String[] mood = someMood();
        boolean texts = random.nextInt(3) == 0;
        while (calls < 512 && check.wrong() == 0) {
            if (random.nextInt(texts ? 20 : 200) == 0) {
                feedSomeText();
            } else if (random.nextInt(texts ? 60 : 200) == 0) {
                setUpAlikeNets();
            } else if (random.nextInt(60) == 0) {
                call("posts", random.nextInt(4), 1 + random.nextInt(5));
            } else {
                String name = mood[random.nextInt(mood.length)];
                if (random.nextInt(5) > 0 && (name.equals("again") || name.equals("keep") || name.equals("bare"))) {
                    continue;
                }
                call(name, arguments(name, KINDS.get(name), wildness));
            }
        }
    }

    private String[] someMood() {
        StringBuilder mood = new StringBuilder();
        if (random.nextInt(4) == 0) {
            for (String[] one : CALLS) {
                mood.append(one[0]).append(' ');
            }
        }
        for (int i = 1 + random.nextInt(3); i > 0; i--) {
            mood.append(MOODS[random.nextInt(MOODS.length)]).append(' ');
        }
        return mood.toString().trim().split(" ");
    }

    private Object[] arguments(String name, String kinds, int wildness) {
        Object[] args = new Object[kinds.length()];
        int m = 1 + random.nextInt(4);
        for (int i = 0; i < args.length; i++) {
            char kind = kinds.charAt(i);
            if (kind == '8') {
                args[i] = random.nextLong();
            } else if (kind == 'b' && (name.equals("road") || name.equals("out"))) {
                args[i] = random.nextInt(4) > 0;
            } else if (random.nextInt(wildness) == 0) {
                args[i] = WILD[random.nextInt(WILD.length)];
            } else if (kind == 'm' || kind == '2') {
                m = kind == '2' ? 2 + random.nextInt(2) : i > 0 && name.equals("lift") ? m + random.nextInt(5 - m) : 1 + random.nextInt(4);
                args[i] = m;
            } else if (kind == 'f') {
                args[i] = ALL_FORMS[random.nextInt(m == 1 ? 1 : m == 2 ? 2 : m == 3 ? 4 : 11)];
            } else {
                args[i] = number(kind);
            }
        }
        if (name.equals("add")) {
            tellShare(args, wildness);
        } else if (random.nextInt(8) > 0) {
            meetState(name, args);
        }
        return args;
    }

    /** Most arguments are of things that there are. */
    private void meetState(String name, Object[] args) {
        int shares = reference.s.shares.size();
        int parts = reference.s.weights.size();
        int sheet = random.nextInt(4);
        Object row = reference.sheets[sheet];
        int shelf = random.nextInt(4);
        switch (name) {
            case "shareOf": case "weight": case "gives": case "value": case "valueAt":
                args[0] = random.nextInt(Math.max(1, shares));
                break;
            case "chance":
                args[0] = random.nextInt(Math.max(1, parts));
                args[1] = random.nextInt(Math.max(1, parts));
                break;
            case "row": case "alterRow":
                args[0] = random.nextInt(Math.max(1, reference.proved.size()));
                break;
            case "trace":
                args[0] = random.nextInt(1 + reference.bodies.size());
                break;
            case "put": case "item":
                args[0] = sheet;
                args[name.equals("put") ? 1 : 2] = row == null ? 0 : random.nextInt(1 + java.lang.reflect.Array.getLength(row));
                if (name.equals("item")) {
                    args[1] = row == null ? 0 : Reference.sortOf(row);
                }
                break;
            case "rows":
                args[1] = reference.sheets[0] instanceof int[] ? 0 : reference.sheets[1] instanceof int[] ? 1 : args[1];
                break;
            case "shelf":
                args[1] = random.nextInt(8) == 0 ? args[1] : (Object) random.nextInt(2);
                args[2] = args[1].equals(0) ? random.nextInt(Math.max(1, shares)) : random.nextInt(4);
                break;
            case "taken":
                args[0] = shelf;
                if (reference.shelves[shelf] != null) {
                    args[1] = reference.shelves[shelf] instanceof Integer ? random.nextInt(4) : 10 + Reference.sortOf(reference.shelves[shelf]);
                }
                break;
            case "formAt":
                args[1] = random.nextInt(args[0].equals(4) ? 12 : 5);
                break;
            case "act":
                args[0] = reference.shelves[shelf] instanceof Integer ? shelf : args[0];
                break;
            case "sheet":
                args[1] = random.nextInt(3) > 0 ? (Object) random.nextInt(4) : args[1];
                break;
            default:
                break;
        }
    }

    private int number(char kind) {
        switch (kind) {
            case 'e': return random.nextInt(10);
            case 'n': case 's': return random.nextInt(4);
            case 'P': return random.nextInt(12);
            case 'p': return random.nextInt(6);
            case 'a': case 'b': return 0;
            case 'w': return random.nextInt(5) < 2 ? random.nextInt(2) : 9 + random.nextInt(12);
            case 'c': return random.nextInt(random.nextBoolean() ? 8 : 66);
            case 'i': return random.nextInt(13) - 1;
            case 'h': return random.nextInt(2);
            case 'k': return random.nextInt(6);
            case 'd': return random.nextInt(11);
            case 'q': return random.nextInt(5);
            case 'v': return random.nextInt(5);
            case 'S': return random.nextInt(7);
            case 'W': return random.nextInt(102) - 1;
            case 'r': return random.nextInt(20);
            case 't': return random.nextInt(5) - 1;
            case 'l': return random.nextInt(8) == 0 ? random.nextInt(46) - 2 : random.nextInt(8);
            case 'T': return random.nextInt(2) * 10 + random.nextInt(4);
            case 'x': return random.nextBoolean() ? random.nextInt(40) - 20 : random.nextInt();
            default: return random.nextInt(12) - 1;
        }
    }

    private void tellShare(Object[] args, int wildness) {
        int kind = random.nextInt(4);
        args[0] = random.nextInt(wildness) == 0 ? WILD[random.nextInt(WILD.length)] : kind;
        if (kind == 0) {
            int m = random.nextInt(12) == 0 ? 1 + random.nextInt(4) : 2 + random.nextInt(2);
            args[1] = m;
            args[2] = ALL_FORMS[random.nextInt(m < 3 ? 3 : 5)];
        } else if (kind == 2) {
            args[1] = random.nextInt(21) - 10;
            args[2] = random.nextInt(21) - 10;
        } else {
            args[1] = random.nextInt(4) == 0 ? random.nextInt(8) : random.nextInt(10100) - 50;
            args[2] = random.nextInt(4) == 0 ? random.nextInt() : random.nextInt(8) - 4;
        }
    }

    /** A net, and the same one in another order of posts, with a road more or less at times. */
    private void setUpAlikeNets() throws Exception {
        int n = 2 + random.nextInt(9);
        int a = random.nextInt(4);
        int b = (a + 1 + random.nextInt(3)) % 4;
        call("posts", a, n);
        call("posts", b, n);
        List<Integer> order = new ArrayList<>();
        for (int i = 0; i < n; i++) {
            order.add(i);
        }
        java.util.Collections.shuffle(order, random);
        int roads = Math.min(12, n * (n - 1) / 2);
        int[][] told = new int[roads][];
        for (int i = 0; i < roads; i++) {
            int p = random.nextInt(n);
            int q = random.nextInt(n);
            told[i] = new int[] {p, q};
            call("road", a, p, q, true);
        }
        int last = random.nextInt(3) == 0 ? roads - 1 : roads;
        for (int i = 0; i < last; i++) {
            call("road", b, order.get(told[i][0]), order.get(told[i][1]), true);
        }
        if (random.nextBoolean()) {
            call("turn", a);
            call("turn", b);
        }
        call("same", a, b);
    }

    private void feedSomeText() throws Exception {
        String text = random.nextInt(6) == 0 ? someWords() : wellFormed();
        if (random.nextInt(2) == 0) {
            text = spoiled(text);
        }
        for (int from = 0; from < text.length();) {
            int n = Math.min(1 + random.nextInt(8), text.length() - from);
            call("feed", Check.eight(text, from, n) | (n < 8 ? random.nextLong() << 8 * n : 0), n);
            from += n;
        }
        int net = random.nextInt(4);
        call("read", net);
        for (int p = 0; p < 10 && random.nextInt(8) > 0; p++) {
            call("netOf", net, 10 + p);
        }
    }

    private String someWords() {
        StringBuilder text = new StringBuilder(random.nextBoolean() ? "posts 5;" : "");
        for (int i = random.nextInt(12); i > 0; i--) {
            text.append(WORDS[random.nextInt(WORDS.length)]).append(random.nextBoolean() ? " " : "");
        }
        return text.toString();
    }

    private String wellFormed() {
        int n = 1 + random.nextInt(10);
        StringBuilder text = new StringBuilder(blanks(0) + "posts" + blanks(0) + n + blanks(0) + ";" + blanks(0));
        for (int i = random.nextInt(5); i > 0; i--) {
            int kind = random.nextInt(3);
            int least = kind == 0 ? 2 : kind == 1 ? 1 : 3;
            if (least > n) {
                continue;
            }
            text.append(kind == 0 ? "road" : kind == 1 ? "all" : "ring").append(blanks(0));
            List<Integer> posts = new ArrayList<>();
            for (int p = 0; p < n; p++) {
                posts.add(p);
            }
            java.util.Collections.shuffle(posts, random);
            int told = least + random.nextInt(n - least + 1);
            for (int p = 0; p < told; p++) {
                text.append(p > 0 ? blanks(1) : "").append(posts.get(p) < 10 && random.nextInt(5) == 0 ? "0" : "").append(posts.get(p));
            }
            text.append(blanks(0)).append(";").append(blanks(0));
        }
        return text.toString();
    }

    private String blanks(int least) {
        return " ".repeat(least + (random.nextInt(4) == 0 ? random.nextInt(3) : 0));
    }

    private String spoiled(String text) {
        if (text.isEmpty()) {
            return text;
        }
        int at = random.nextInt(text.length());
        switch (random.nextInt(4)) {
            case 0: return text.substring(0, at);
            case 1: return text.substring(0, at) + text.substring(at + 1);
            case 2: return text.substring(0, at) + WORDS[random.nextInt(WORDS.length)] + text.substring(at);
            default: return text.substring(0, at) + (char) random.nextInt(256) + text.substring(at + 1);
        }
    }

    private void call(String name, Object... args) throws Exception {
        if (calls >= 512 || check.wrong() > 0) {
            return;
        }
        calls++;
        String shown = Check.show(name, args);
        long want = ((Number) answer(model.get(name), reference, args)).longValue();
        long got;
        try {
            got = ((Number) answer(real.get(name), nets, args)).longValue();
        } catch (InvocationTargetException e) {
            e.getCause().printStackTrace(System.out);
            got = Long.MIN_VALUE;
        }
        log.add(shown + " = " + got);
        check.due("run " + run + " call " + calls + ": " + shown, want, got);
        (want < 0 ? refused : answered).merge(name, 1, Integer::sum);
        if (want >= 0 && before != null) {
            followed.add(before + " " + name);
        }
        before = want >= 0 ? name : null;
        if (want != got) {
            log.forEach(System.out::println);
        }
    }

    private static Object answer(Method method, Object on, Object[] args) throws Exception {
        return method.invoke(on, args);
    }
}
