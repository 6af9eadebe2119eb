import java.lang.reflect.InvocationTargetException;
import java.lang.reflect.Method;
import java.lang.reflect.Modifier;
import java.util.ArrayList;
import java.util.Comparator;
import java.util.HashMap;
import java.util.List;
import java.util.Map;
import java.util.Random;

/** Long random runs (with a fixed seed) on the program and on PlainModel: every answer must be the same. */
public final class RandomRunsTest {
    private static final String[] TEXTS_0 = {
        "s", "h", "n", "n>2", "s=h%8", "!(s=3)", "h<12&s>1|n=2", "(s+h)%3<2", "s*s-h/3", "0", "s-4", "(((((n)))))",
        "!!!!!s", "h%2=1", "((h/6+s)%2=1)&n<5", "9999*9999*9999*9999+s",
    };
    private static final String[] TEXTS_1 = {
        "f", "m", "f/4+m%2", "f>m|s=2", "f%(m-m)+9", "f-m*s", "!f", "f*f*f*f*f*f*f", "(f>9)*3+(s<4)*2", "5-f",
    };
    private static final String SIGNS = "shnfm019!()|&<=>+-*/%x ";
    /** One run of so many begins at STEP 9990, since by chance alone none comes near the last STEP. */
    private static final int LATE_RUNS = 5;
    private static final int CALLS_TILL_LATE = 167;

    private record Call(String name, long[] given) {
    }

    private final Random random;

    private RandomRunsTest(long seed) {
        random = new Random(seed);
    }

    public static void main(String[] args) throws IllegalAccessException, InvocationTargetException {
        int runs = args.length > 0 ? Integer.parseInt(args[0]) : 60;
        Map<String, Integer> answered = new HashMap<>();
        for (int run = 0; run < runs; run++) {
            new RandomRunsTest(run).run(run, answered);
        }
        for (Method method : methods()) {
            Due.due("calls of " + method.getName() + " that were no ERROR",
                answered.getOrDefault(method.getName(), 0) > runs / 10);
        }
        Due.end();
    }

    private static List<Method> methods() {
        List<Method> all = new ArrayList<>();
        for (Method method : ImmunityCatching.class.getDeclaredMethods()) {
            if (Modifier.isPublic(method.getModifiers())) {
                all.add(method);
            }
        }
        // The order in which reflection tells them is free, and the runs are to be the same each time.
        all.sort(Comparator.comparing(Method::getName));
        return all;
    }

    private void run(int run, Map<String, Integer> answered) throws IllegalAccessException, InvocationTargetException {
        ImmunityCatching x = new ImmunityCatching();
        PlainModel model = new PlainModel();
        List<Method> methods = methods();
        Map<String, Method> byName = new HashMap<>();
        for (Method method : methods) {
            byName.put(method.getName(), method);
        }
        int people = random.nextInt(9);
        int early = people + (run % LATE_RUNS == 0 ? CALLS_TILL_LATE : 0);
        for (int calls = 0; calls < 512; ) {
            List<Call> next = calls < people
                ? List.of(call("soul", random.nextInt(70), random.nextInt(random.nextBoolean() ? 8 : 3)))
                : calls < early ? List.of(call("steps", calls == people ? 30 : 60))
                : random.nextInt(6) == 0 ? someCalls(x) : List.of(oneCall(methods));
            for (Call call : next) {
                calls++;
                ask(run, x, model, byName.get(call.name()), call.given(), answered);
            }
        }
    }

    private static Call call(String name, long... given) {
        return new Call(name, given);
    }

    private static void ask(int run, ImmunityCatching x, PlainModel model, Method method, long[] given,
        Map<String, Integer> answered) throws IllegalAccessException, InvocationTargetException {
        Class<?>[] types = method.getParameterTypes();
        Object[] boxed = new Object[types.length];
        StringBuilder told = new StringBuilder("run " + run + ": " + method.getName() + "(");
        for (int i = 0; i < types.length; i++) {
            if (types[i] == long.class) {
                boxed[i] = given[i];
            } else {
                boxed[i] = (int) given[i];
            }
            told.append(i == 0 ? "" : ", ").append(given[i]);
        }
        int got = (Integer) method.invoke(x, boxed);
        int want = model.answer(method.getName(), given);
        Due.due(told.append(")").toString(), got, want);
        if (want > -1000000000) {
            answered.merge(method.getName(), 1, Integer::sum);
        }
    }

    /** Calls that belong together, since calls by chance alone seldom hit what is so. */
    private List<Call> someCalls(ImmunityCatching x) {
        switch (random.nextInt(5)) {
            case 0: return fromCalls(x);
            case 1: return checkCalls(x);
            case 2: return judgeCalls(x);
            default: return textCalls();
        }
    }

    private int bits() {
        return 8 << random.nextInt(3);
    }

    private List<Call> fromCalls(ImmunityCatching x) {
        int size = x.count(0);
        int only = random.nextInt(8);
        int n = random.nextInt(5);
        ImmunityCatching alone = new ImmunityCatching();
        alone.loss(x.count(2));
        for (int i = 0; i < x.count(1) % 60; i++) {
            alone.steps(1);
        }
        List<Call> calls = new ArrayList<>();
        calls.add(call("sheet", 0, bits(), size + 1));
        for (int i = 0; i < size; i++) {
            alone.soul(10 * x.ofSoul(i, 0) + x.ofSoul(i, 1), x.ofSoul(i, 2));
            alone.change(i, 1, i == only ? x.ofSoul(i, 3) : 0);
            alone.change(i, 2, x.ofSoul(i, 4));
        }
        for (int i = 0; i < size; i++) {
            calls.add(call("put", 0, i, alone.then(n, i, 0)));
        }
        calls.add(call("put", 0, size, n));
        calls.add(call("from", 0, 0));
        calls.add(call("from", 0, 1));
        return calls;
    }

    private List<Call> checkCalls(ImmunityCatching x) {
        List<Call> calls = new ArrayList<>();
        calls.add(call("check"));
        int many = random.nextInt(22);
        for (int n = 1; n <= many; n++) {
            int sum = random.nextInt(30) == 0 ? 1 : 0;
            for (int who = 0; who < x.count(0); who++) {
                sum += x.then(n, who, 0);
            }
            calls.add(call("tell", sum));
        }
        calls.add(call("check"));
        return calls;
    }

    private List<Call> judgeCalls(ImmunityCatching x) {
        int sheet = random.nextInt(4);
        int bits = bits();
        int size = x.count(0) + (random.nextInt(3) == 0 ? random.nextInt(3) : 0);
        List<Call> calls = new ArrayList<>();
        calls.add(call("sheet", sheet, bits, size));
        for (int i = 0; i < size; i++) {
            calls.add(call("put", sheet, i, i < x.count(0) && random.nextInt(12) > 0 ? x.ofSoul(i, 2) : random.nextInt(8)));
        }
        calls.add(call("judge", sheet));
        int other = random.nextInt(4);
        calls.add(call("sheet", other, bits, 9));
        calls.add(call("move", sheet, random.nextInt(3), other, random.nextInt(3), random.nextInt(9)));
        calls.add(call("move", other, random.nextInt(3), other, random.nextInt(3), random.nextInt(8)));
        calls.add(call("judge", other));
        calls.add(call("frees", other));
        return calls;
    }

    private List<Call> textCalls() {
        int use = random.nextInt(2);
        StringBuilder text = new StringBuilder();
        if (random.nextInt(3) > 0) {
            String[] known = use == 0 ? TEXTS_0 : TEXTS_1;
            text.append(known[random.nextInt(known.length)]);
        } else {
            made(text, use == 0 ? "shn" : "fms", 0);
        }
        if (random.nextInt(3) == 0 && text.length() > 0) {
            text.setCharAt(random.nextInt(text.length()), SIGNS.charAt(random.nextInt(SIGNS.length())));
        }
        List<Call> calls = new ArrayList<>();
        for (int i = 0; i < text.length(); i += 8) {
            int n = Math.min(8, text.length() - i);
            long word = 0;
            for (int j = n - 1; j >= 0; j--) {
                word = word << 8 | text.charAt(i + j);
            }
            calls.add(call("feed", word, n));
        }
        calls.add(call("text", use));
        calls.add(call("law", use, some(), some(), some()));
        return calls;
    }

    private void made(StringBuilder text, String names, int depth) {
        int parts = 1 + random.nextInt(3);
        for (int i = 0; i < parts; i++) {
            if (i > 0) {
                text.append("|&<=>+-*/%".charAt(random.nextInt(10)));
            }
            int which = random.nextInt(depth > 6 ? 2 : 4);
            if (which == 0) {
                text.append(names.charAt(random.nextInt(3)));
            } else if (which == 1) {
                text.append(random.nextInt(random.nextBoolean() ? 10 : 20000));
            } else if (which == 2) {
                text.append('!').append(names.charAt(random.nextInt(3)));
            } else {
                text.append(random.nextBoolean() ? "(" : "!(");
                made(text, names, depth + 1);
                text.append(')');
            }
        }
    }

    private Call oneCall(List<Method> methods) {
        Method method = methods.get(random.nextInt(methods.size()));
        String name = method.getName();
        // These end what the run is about, so they come less often.
        if (name.equals("restore") && random.nextInt(3) > 0) {
            return call("image");
        }
        Class<?>[] types = method.getParameterTypes();
        long[] given = new long[types.length];
        int[] most = mostOf(name);
        for (int i = 0; i < given.length; i++) {
            boolean wild = random.nextInt(25) == 0;
            given[i] = wild ? some() : random.nextInt(most[i] + 1);
            if (types[i] == long.class && random.nextBoolean()) {
                given[i] = random.nextLong();
            }
        }
        if (name.equals("sheet") && random.nextInt(8) > 0) {
            given[1] = new long[] {8, 16, 32, 0}[random.nextInt(4)];
        }
        if ((name.equals("sheet") || name.equals("from") || name.equals("put")) && random.nextBoolean()) {
            given[0] = 0;
        }
        return new Call(name, given);
    }

    /** Up to what a number of a call mostly goes: one more than fits, or so. */
    private static int[] mostOf(String name) {
        switch (name) {
            case "soul": return new int[] {71, 8};
            case "ofSoul": return new int[] {8, 9};
            case "change": return new int[] {7, 3, 30};
            case "become": return new int[] {8, 70};
            case "as": return new int[] {8, 7};
            case "loss": return new int[] {10};
            case "street": return new int[] {8, 2};
            case "meet": return new int[] {8, 8};
            case "feed": return new int[] {120, 9};
            case "text": return new int[] {2};
            case "law": return new int[] {2, 20, 20, 20};
            case "steps": return new int[] {9};
            case "loose": return new int[] {6};
            case "then": return new int[] {61, 8, 3};
            case "last": return new int[] {20, 2};
            case "reaches": return new int[] {8};
            case "gloves": return new int[] {8, 12};
            case "from": return new int[] {4, 2};
            case "stand": return new int[] {8, 21, 2};
            case "crush": return new int[] {61, 2};
            case "touch": return new int[] {8, 21, 2};
            case "done": return new int[] {61};
            case "odds": return new int[] {8, 20, 2};
            case "seed": return new int[] {1000000000};
            case "voice": return new int[] {8, 4, 1000};
            case "trace": return new int[] {12};
            case "sheet": return new int[] {4, 33, 12};
            case "put": return new int[] {4, 9, 20};
            case "move": return new int[] {4, 6, 4, 6, 6};
            case "frees": return new int[] {4};
            case "judge": return new int[] {4};
            case "tell": return new int[] {100};
            case "count": return new int[] {11};
            case "told": return new int[] {6};
            default: return new int[0];
        }
    }

    private int some() {
        int[] edges = {Integer.MIN_VALUE, Integer.MIN_VALUE + 1, -100, -1, 0, 1, 7, 8, 20, 21, 40, 41, 60, 61, 99, 100,
            255, 256, 9999, 10000, Integer.MAX_VALUE - 1, Integer.MAX_VALUE};
        return random.nextInt(4) == 0 ? random.nextInt() : edges[random.nextInt(edges.length)];
    }
}
