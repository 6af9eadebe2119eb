/** Edges of "Terms" 3 as far as they tell of VOICES, and of promises 26 to 28: seed, voice, trace. */
final class VoicesEdges {
    private VoicesEdges() {
    }

    static void all() {
        goRound();
        nextKindAbove();
        superKind();
        firstForty();
        seedAnyNumber();
        voiceAnyNumber();
        voiceBeyond();
        traceNone();
    }

    private static void goRound() {
        Edge.of(Edge.TERMS, "with a number x (ints that go round)");
        ImmunityCatching x = Due.with(9, 0, 9, 0, 39, 0, 19, 0);
        Due.due("keeps: x + n", x.voice(1, 0, Due.MAX), Due.MIN);
        Due.due("hands: twice that", x.voice(1, 1, Due.MAX), 0);
        Due.due("hands: twice 2^30", x.voice(0, 1, 1 << 30), Due.MIN);
        Due.due("steals: x - m", x.voice(0, 2, Due.MIN + 8), Due.MAX);
        Due.due("steals of a THIEF: less the least", x.voice(2, 2, Due.MIN + 9), Due.MIN);
        Due.due("keeps of an ENVOY: three times", x.voice(3, 0, Due.MAX), Due.MIN + 6);
        ImmunityCatching y = Due.with(0, 0, 50, 0);
        Due.due("hands of a JUDGE: x + 1", y.voice(1, 1, Due.MAX), 1);
    }

    private static void nextKindAbove() {
        Edge.of(Edge.TERMS, "keeps(..) is the BODY of its KIND, or of the next KIND above that has one");
        // The first BODY of each KIND's acts: its own, or that of the next KIND above that has one.
        int[][] first = {{10, 11, 12, 13}, {20, 11, 12, 13}, {10, 30, 12, 13}, {10, 11, 40, 13}, {20, 11, 12, 50},
            {10, 60, 12, 13}, {10, 11, 70, 71}};
        for (int kind = 0; kind < 7; kind++) {
            for (int act = 0; act < 4; act++) {
                ImmunityCatching x = Due.with(10 * kind, 0);
                x.voice(0, act, 0);
                Due.due("KIND " + kind + ", act " + act, x.trace(0), first[kind][act]);
            }
        }
    }

    /** Of one with the number 2 and m 3, with 5. */
    private static void traced(int kind, int act, int answer, int... bodies) {
        ImmunityCatching x = Due.with(0, 0, 0, 0, 10 * kind + 3, 0);
        Due.due("KIND " + kind + ", act " + act, x.voice(2, act, 5), answer);
        Due.due("BODIES of KIND " + kind + ", act " + act, x.count(9), bodies.length);
        for (int i = 0; i < bodies.length; i++) {
            Due.due("BODY " + i + " of KIND " + kind + ", act " + act, x.trace(i), bodies[i]);
        }
    }

    private static void superKind() {
        Edge.of(Edge.TERMS, "super.keeps(..) that from the KIND above the BODY's on.");
        traced(0, 3, 12, 13, 11, 10, 12);
        traced(1, 0, 21, 20, 10);
        traced(2, 1, 16, 30, 11, 10, 12);
        traced(3, 2, -2, 40, 12);
        traced(4, 0, 21, 20, 10);
        traced(4, 3, 28, 50, 13, 11, 20, 10, 12, 20, 10);
        traced(5, 1, 18, 60, 30, 11, 10, 12);
        traced(6, 2, -4, 70, 40, 12);
        traced(6, 3, 28, 71, 11, 10, 13, 11, 10, 70, 40, 12);
    }

    private static void firstForty() {
        Edge.of(Edge.TERMS, "THE TRACE: the numbers of BODIES of the latest voice(), as they began (what stands left is "
            + "worked out first), the first 40.");
        ImmunityCatching x = Due.with(60, 0, 0, 0);
        for (int i = 0; i < 50; i++) {
            x.voice(0, 3, i);
        }
        Due.due("of the latest alone: 9, the most there can be", x.count(9), 9);
        Due.due("the last of them", x.trace(8), 12);
        x.voice(1, 0, 0);
        Due.due("of the latest alone: 1", x.count(9), 1);
        Due.due("none is left of those ahead", x.trace(1), Due.NONE);
        x.voice(1, 3, 0);
        Due.due("hands stands left of steals", x.trace(1), 11);
        Due.due("and is worked out first", x.trace(3), 12);
    }

    private static void seedAnyNumber() {
        Edge.of(26, "z becomes v: what it was (any number).");
        int[] numbers = {0, -1, Due.MIN, Due.MAX, Due.LOW, Due.BEYOND, Due.NONE, Due.STATE, Due.FULL, Due.KIND};
        ImmunityCatching x = new ImmunityCatching();
        int was = 1;
        for (int v : numbers) {
            Due.due("seed(" + v + ")", x.seed(v), was);
            Due.due("z", x.count(10), v);
            was = v;
        }
        x.seed(1);
        for (int k = 1; k <= 5; k++) {
            Due.due("none was an ERROR", x.told(k), 0);
        }
    }

    private static void voiceAnyNumber() {
        Edge.of(27, "A VOICE of one of PEOPLE: any number.");
        ImmunityCatching x = Due.with(0, 0);
        for (int k = 1; k <= 5; k++) {
            Due.due("one like an ERROR", x.voice(0, 0, Due.LOW - k), Due.LOW - k);
        }
        for (int k = 1; k <= 5; k++) {
            Due.due("is none", x.told(k), 0);
        }
        Due.due("the least", x.voice(0, 0, Due.MIN), Due.MIN);
        Due.due("the most", x.voice(0, 0, Due.MAX), Due.MAX);
    }

    private static void voiceBeyond() {
        Edge.of(27, "BEYOND.");
        ImmunityCatching x = Due.with(10, 0, 0, 0);
        x.voice(0, 3, 7);
        for (int soul : new int[] {-1, 2, 8, Due.MIN, Due.MAX}) {
            Due.due("of " + soul, x.voice(soul, 0, 0), Due.BEYOND);
        }
        for (int act : new int[] {-1, 4, Due.MIN, Due.MAX}) {
            Due.due("act " + act, x.voice(0, act, 0), Due.BEYOND);
        }
        Due.due("THE TRACE stays", x.count(9), 5);
        Due.due("act 3", x.voice(1, 3, 0), 2);
        Due.due("nobody", new ImmunityCatching().voice(0, 0, 0), Due.BEYOND);
    }

    private static void traceNone() {
        Edge.of(28, "THE TRACE's i-th. NONE: there is none such.");
        ImmunityCatching x = Due.with(0, 0);
        Due.due("ahead of any voice", x.trace(0), Due.NONE);
        x.voice(0, 1, 0);
        Due.due("the first", x.trace(0), 11);
        Due.due("the last", x.trace(1), 10);
        for (int i : new int[] {-1, 2, 39, 40, Due.MIN, Due.MAX}) {
            Due.due("trace(" + i + ")", x.trace(i), Due.NONE);
        }
        Due.due("told", x.told(2), 7);
        Due.due("not BEYOND", x.told(1), 0);
    }
}
