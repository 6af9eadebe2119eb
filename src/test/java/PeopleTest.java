/** Promises 2 to 9: soul, ofSoul, change, become, as, loss, street, meet. */
public final class PeopleTest {
    public static void main(String[] args) {
        soul();
        ofSoul();
        keeps();
        hands();
        runs();
        change();
        become();
        as();
        loss();
        street();
        meet();
        Due.end();
    }

    private static void soul() {
        ImmunityCatching x = new ImmunityCatching();
        Due.due("soul, km -1", x.soul(-1, 0), Due.BEYOND);
        Due.due("soul, km 70", x.soul(70, 0), Due.BEYOND);
        Due.due("soul, km least", x.soul(Due.MIN, 0), Due.BEYOND);
        Due.due("soul, street -1", x.soul(0, -1), Due.BEYOND);
        Due.due("soul, street 8", x.soul(0, 8), Due.BEYOND);
        Due.due("nobody yet", x.count(0), 0);
        for (int i = 0; i < 8; i++) {
            Due.due("soul " + i, x.soul(i == 7 ? 69 : 10 * (i % 7) + i, i), i);
        }
        Due.due("nine", x.soul(0, 0), Due.FULL);
        Due.due("BEYOND ahead of FULL", x.soul(70, 0), Due.BEYOND);
        Due.due("BEYOND ahead of FULL, street", x.soul(0, 8), Due.BEYOND);
        Due.due("eight", x.count(0), 8);
        for (int i = 0; i < 8; i++) {
            Due.due("KIND of " + i, x.ofSoul(i, 0), i == 7 ? 6 : i % 7);
            Due.due("m of " + i, x.ofSoul(i, 1), i == 7 ? 9 : i);
            Due.due("AT of " + i, x.ofSoul(i, 2), i);
        }
    }

    private static void ofSoul() {
        ImmunityCatching x = new ImmunityCatching();
        x.soul(34, 6);
        x.change(0, 1, 7);
        x.change(0, 2, 1);
        x.change(0, 3, 123);
        x.loss(5);
        int[] want = {3, 4, 6, 7, 1, 123, 0, 6, 1};
        for (int what = 0; what < want.length; what++) {
            Due.due("ofSoul(0, " + what + ")", x.ofSoul(0, what), want[what]);
        }
        Due.due("ofSoul, what 9", x.ofSoul(0, 9), Due.BEYOND);
        Due.due("ofSoul, what -1", x.ofSoul(0, -1), Due.BEYOND);
        Due.due("ofSoul of 1", x.ofSoul(1, 0), Due.BEYOND);
        Due.due("ofSoul of -1", x.ofSoul(-1, 0), Due.BEYOND);
        Due.due("ofSoul of most", x.ofSoul(Due.MAX, Due.MAX), Due.BEYOND);
        Due.due("told", x.told(1), 5);
    }

    private static void keeps() {
        ImmunityCatching x = new ImmunityCatching();
        for (int kind = 0; kind < 7; kind++) {
            x.soul(10 * kind + 3, kind);
        }
        int[] atNought = {0, 13, 0, 0, 33, 0, 0};
        for (int kind = 0; kind < 7; kind++) {
            Due.due("KEEPS at STEP 0 of " + kind, x.ofSoul(kind, 6), atNought[kind]);
        }
        x.steps(1);
        Due.due("KEEPS of ENVOY at STEP 1", x.ofSoul(1, 6), 13);
        Due.due("KEEPS of NUNCIO at STEP 1", x.ofSoul(4, 6), 13);
        x.steps(6);
        Due.due("KEEPS of ENVOY at STEP 7", x.ofSoul(1, 6), 13);
        Due.due("KEEPS of NUNCIO at STEP 7", x.ofSoul(4, 6), 33);
        x.steps(1);
        Due.due("KEEPS of NUNCIO at STEP 8", x.ofSoul(4, 6), 13);
    }

    private static void hand(int km, int free, int loss, int want) {
        ImmunityCatching x = new ImmunityCatching();
        x.soul(km, 0);
        x.change(0, 1, free);
        x.loss(loss);
        Due.due("HANDS of " + km + " FREE " + free + " LOSS " + loss, x.ofSoul(0, 7), want);
    }

    private static void hands() {
        hand(5, 10, 3, 7);
        hand(5, 3, 3, 0);
        hand(5, 2, 3, 0);
        hand(0, 99, 1, 98);
        hand(15, 10, 3, 7);
        hand(45, 10, 3, 7);
        hand(25, 10, 3, 3);
        hand(25, 11, 3, 4);
        hand(25, 0, 9, 0);
        hand(25, 99, 1, 49);
        hand(55, 99, 1, 0);
        hand(55, 0, 1, 0);
        hand(30, 10, 3, 7);
        hand(32, 10, 3, 9);
        hand(33, 10, 3, 10);
        hand(39, 10, 3, 10);
        hand(38, 0, 9, 0);
        hand(39, 99, 1, 99);
        hand(60, 10, 3, 8);
        hand(62, 10, 3, 10);
        hand(69, 10, 3, 11);
        hand(60, 0, 9, 0);
        hand(68, 0, 9, 0);
        hand(69, 0, 9, 1);
        hand(69, 99, 1, 99);
        hand(69, 98, 1, 99);
    }

    private static void runs() {
        ImmunityCatching x = new ImmunityCatching();
        int[] km = {9, 19, 29, 30, 39, 49, 59, 69};
        int[] want = {1, 1, 2, 1, 2, 1, 3, 0};
        for (int i = 0; i < km.length; i++) {
            x.soul(km[i], 0);
            Due.due("RUNS of " + km[i], x.ofSoul(i, 8), want[i]);
        }
    }

    private static void change() {
        ImmunityCatching x = new ImmunityCatching();
        x.soul(0, 3);
        x.soul(0, 4);
        int[] most = {7, 99, 1, 9999};
        int[] first = {4, 0, 0, 0};
        int[] field = {2, 3, 4, 5};
        for (int what = 0; what < 4; what++) {
            Due.due("change to most, what " + what, x.change(1, what, most[what]), first[what]);
            Due.due("change beyond most, what " + what, x.change(1, what, most[what] + 1), Due.BEYOND);
            Due.due("change below, what " + what, x.change(1, what, -1), Due.BEYOND);
            Due.due("it stays, what " + what, x.ofSoul(1, field[what]), most[what]);
            Due.due("change to 0, what " + what, x.change(1, what, 0), most[what]);
            Due.due("it is 0, what " + what, x.ofSoul(1, field[what]), 0);
        }
        Due.due("the other stays AT", x.ofSoul(0, 2), 3);
        Due.due("change, what 4", x.change(1, 4, 0), Due.BEYOND);
        Due.due("change, what -1", x.change(1, -1, 0), Due.BEYOND);
        Due.due("change of 2", x.change(2, 0, 0), Due.BEYOND);
        Due.due("change of -1", x.change(-1, 0, 0), Due.BEYOND);
    }

    private static void become() {
        ImmunityCatching x = new ImmunityCatching();
        x.soul(12, 5);
        x.change(0, 1, 8);
        x.change(0, 2, 1);
        x.change(0, 3, 9);
        Due.due("become", x.become(0, 67), 1);
        int[] want = {6, 7, 5, 8, 1, 9};
        for (int what = 0; what < want.length; what++) {
            Due.due("behind become, what " + what, x.ofSoul(0, what), want[what]);
        }
        Due.due("become 70", x.become(0, 70), Due.BEYOND);
        Due.due("become -1", x.become(0, -1), Due.BEYOND);
        Due.due("become of 1", x.become(1, 0), Due.BEYOND);
        Due.due("become again", x.become(0, 0), 6);
        Due.due("KIND", x.ofSoul(0, 0), 0);
    }

    private static void as() {
        boolean[][] is = new boolean[7][7];
        int[][] above = {{0}, {1, 0}, {2, 0}, {3, 0}, {4, 1, 0}, {5, 2, 0}, {6, 3, 0}};
        for (int kind = 0; kind < 7; kind++) {
            for (int over : above[kind]) {
                is[kind][over] = true;
            }
        }
        ImmunityCatching x = new ImmunityCatching();
        x.soul(0, 0);
        for (int kind = 0; kind < 7; kind++) {
            x.become(0, 10 * kind + kind + 2);
            for (int over = 0; over < 7; over++) {
                Due.due(kind + " as " + over, x.as(0, over), is[kind][over] ? kind + 2 : Due.KIND);
            }
        }
        Due.due("as 7", x.as(0, 7), Due.BEYOND);
        Due.due("as -1", x.as(0, -1), Due.BEYOND);
        Due.due("as, of 1", x.as(1, 0), Due.BEYOND);
        Due.due("told KIND", x.told(5), 49 - 16);
    }

    private static void loss() {
        ImmunityCatching x = new ImmunityCatching();
        Due.due("loss(9)", x.loss(9), 1);
        Due.due("loss(10)", x.loss(10), Due.BEYOND);
        Due.due("loss(0)", x.loss(0), Due.BEYOND);
        Due.due("loss(-1)", x.loss(-1), Due.BEYOND);
        Due.due("LOSS", x.count(2), 9);
        Due.due("loss(1)", x.loss(1), 9);
        Due.due("LOSS", x.count(2), 1);
    }

    private static void street() {
        ImmunityCatching x = new ImmunityCatching();
        x.soul(0, 7);
        x.soul(10, 2);
        x.soul(20, 7);
        x.soul(30, 7);
        x.change(2, 1, 1);
        x.change(1, 1, 1);
        x.change(0, 2, 1);
        x.change(3, 2, 1);
        Due.due("who wear GLOVES", x.count(6), 9);
        Due.due("AT 7", x.street(7, 0), 13);
        Due.due("FREE AT 7", x.street(7, 1), 4);
        Due.due("AT 2", x.street(2, 0), 2);
        Due.due("FREE AT 2", x.street(2, 1), 2);
        Due.due("AT 0", x.street(0, 0), 0);
        Due.due("AT 8", x.street(8, 0), Due.BEYOND);
        Due.due("AT -1", x.street(-1, 0), Due.BEYOND);
        Due.due("what 2", x.street(0, 2), Due.BEYOND);
        Due.due("what -1", x.street(0, -1), Due.BEYOND);
    }

    private static void meet() {
        ImmunityCatching x = new ImmunityCatching();
        x.soul(0, 1);
        x.soul(0, 1);
        x.soul(0, 2);
        Due.due("0 and 1", x.meet(0, 1), 1);
        Due.due("1 and 0", x.meet(1, 0), 1);
        Due.due("0 and 2", x.meet(0, 2), 0);
        Due.due("one and the same", x.meet(1, 1), Due.BEYOND);
        Due.due("0 and 3", x.meet(0, 3), Due.BEYOND);
        Due.due("-1 and 0", x.meet(-1, 0), Due.BEYOND);
        Due.due("9 and 9", x.meet(9, 9), Due.BEYOND);
        x.change(1, 2, 1);
        Due.due("1 with GLOVES", x.meet(0, 1), 0);
        Due.due("1 with GLOVES, the other way", x.meet(1, 0), 0);
        x.change(1, 2, 0);
        meetByText(x);
    }

    private static void meetByText(ImmunityCatching x) {
        Due.due("TEXT", Due.text(x, 0, "s=1&h=2&n=3"), 1);
        x.change(2, 0, 1);
        Due.due("at STEP 0", x.meet(0, 1), 0);
        x.steps(2);
        Due.due("at STEP 2", x.meet(0, 1), 1);
        x.change(2, 2, 1);
        Due.due("who wears GLOVES is AT it, too", x.meet(0, 1), 1);
        x.change(2, 0, 0);
        Due.due("two AT it", x.meet(0, 1), 0);
        x.change(2, 0, 1);
        x.steps(24);
        Due.due("at STEP 26", x.meet(0, 1), 1);
        for (int i = 0; i < 3; i++) {
            x.change(i, 0, 4);
        }
        Due.due("AT 4", x.meet(0, 1), 0);
        Due.due("TEXT below 0", Due.text(x, 0, "0-1"), 1);
        Due.due("what is below 0 is held at 0", x.meet(0, 1), 0);
    }
}
