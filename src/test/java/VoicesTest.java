/** Promises 26 to 28: seed, voice, trace. */
public final class VoicesTest {
    public static void main(String[] args) {
        seed();
        answers();
        traces();
        wraps();
        wrong();
        Due.end();
    }

    private static void seed() {
        ImmunityCatching x = new ImmunityCatching();
        Due.due("1 at first", x.seed(5), 1);
        Due.due("any number", x.seed(Due.MIN), 5);
        Due.due("z", x.count(10), Due.MIN);
        Due.due("one that looks like an ERROR", x.seed(Due.BEYOND), Due.MIN);
        Due.due("z", x.count(10), Due.BEYOND);
        Due.due("again", x.seed(0), Due.BEYOND);
        Due.due("is none", x.told(1), 0);
    }

    /** One of a KIND, with the number 2 and m 3. */
    private static ImmunityCatching second(int kind) {
        ImmunityCatching x = new ImmunityCatching();
        x.soul(0, 0);
        x.soul(0, 0);
        x.soul(10 * kind + 3, 0);
        return x;
    }

    private static void answers() {
        int[][] want = {
            {7, 14, 2, 12}, {21, 42, 2, 40}, {7, 16, 2, 18}, {7, 14, -2, -16},
            {21, 42, 2, 28}, {7, 18, 2, 16}, {7, 14, -4, 28},
        };
        for (int kind = 0; kind < 7; kind++) {
            ImmunityCatching x = second(kind);
            for (int act = 0; act < 4; act++) {
                Due.due("KIND " + kind + ", act " + act, x.voice(2, act, 5), want[kind][act]);
            }
        }
    }

    private static void traced(int kind, int act, int... bodies) {
        ImmunityCatching x = second(kind);
        x.voice(2, 3, 9);
        x.voice(2, act, 5);
        Due.due("BODIES of KIND " + kind + ", act " + act, x.count(9), bodies.length);
        for (int i = 0; i < bodies.length; i++) {
            Due.due("BODY " + i + " of KIND " + kind + ", act " + act, x.trace(i), bodies[i]);
        }
        Due.due("none such", x.trace(bodies.length), Due.NONE);
        Due.due("none such", x.trace(-1), Due.NONE);
        Due.due("none such", x.trace(40), Due.NONE);
        Due.due("none such", x.trace(Due.MAX), Due.NONE);
        Due.due("none such", x.trace(Due.MIN), Due.NONE);
    }

    private static void traces() {
        traced(0, 0, 10);
        traced(0, 1, 11, 10);
        traced(0, 2, 12);
        traced(0, 3, 13, 11, 10, 12);
        traced(1, 0, 20, 10);
        traced(1, 1, 11, 20, 10);
        traced(1, 2, 12);
        traced(1, 3, 13, 11, 20, 10, 12);
        traced(2, 0, 10);
        traced(2, 1, 30, 11, 10, 12);
        traced(2, 3, 13, 30, 11, 10, 12, 12);
        traced(3, 1, 11, 10);
        traced(3, 2, 40, 12);
        traced(3, 3, 13, 11, 10, 40, 12);
        traced(4, 0, 20, 10);
        traced(4, 1, 11, 20, 10);
        traced(4, 2, 12);
        traced(4, 3, 50, 13, 11, 20, 10, 12, 20, 10);
        traced(5, 1, 60, 30, 11, 10, 12);
        traced(5, 2, 12);
        traced(5, 3, 13, 60, 30, 11, 10, 12, 12);
        traced(6, 1, 11, 10);
        traced(6, 2, 70, 40, 12);
        traced(6, 3, 71, 11, 10, 13, 11, 10, 70, 40, 12);
    }

    private static void wraps() {
        ImmunityCatching x = second(0);
        Due.due("keeps", x.voice(2, 0, Due.MAX), Due.MIN + 1);
        Due.due("hands", x.voice(2, 1, 1 << 30), Due.MIN + 4);
        Due.due("steals", x.voice(2, 2, Due.MIN), Due.MAX - 2);
        x = second(3);
        Due.due("THIEF steals", x.voice(2, 2, Due.MIN + 3), Due.MIN);
        x = new ImmunityCatching();
        x.soul(0, 0);
        Due.due("any number", x.voice(0, 0, Due.NONE), Due.NONE);
        Due.due("is no ERROR", x.told(2), 0);
    }

    private static void wrong() {
        ImmunityCatching x = second(1);
        x.voice(2, 0, 5);
        Due.due("of 3", x.voice(3, 0, 0), Due.BEYOND);
        Due.due("of -1", x.voice(-1, 0, 0), Due.BEYOND);
        Due.due("act 4", x.voice(2, 4, 0), Due.BEYOND);
        Due.due("act -1", x.voice(2, -1, 0), Due.BEYOND);
        Due.due("THE TRACE stays", x.count(9), 2);
        Due.due("THE TRACE stays", x.trace(0), 20);
        Due.due("told", x.told(1), 4);
    }
}
