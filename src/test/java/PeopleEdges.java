/** Edges of promises 1 to 9: a new object, soul, ofSoul, change, become, as, loss, street, meet. */
final class PeopleEdges {
    /** Never the number of one of PEOPLE. */
    private static final int[] NOBODY = {-1, 8, Due.MIN, Due.MAX};

    private PeopleEdges() {
    }

    static void all() {
        newObject();
        numbers();
        soulBeyond();
        soulFull();
        ofSoulBeyond();
        changeAll();
        changeBeyond();
        becomeBeyond();
        asBeyond();
        asKind();
        lossBeyond();
        streetSets();
        streetBeyond();
        meetBeyond();
        meetOneself();
    }

    private static void newObject() {
        Edge.of(1, "All as at first; no PEOPLE.");
        ImmunityCatching x = new ImmunityCatching();
        int[] first = {0, 0, 1, 0, 0, 0, 0, 0, 0, 0, 1};
        for (int what = 0; what <= 10; what++) {
            Due.due("count(" + what + ")", x.count(what), first[what]);
        }
        for (int street = 0; street < 8; street++) {
            Due.due("who are AT " + street, x.street(street, 0), 0);
        }
        Due.due("there is no number 0", x.ofSoul(0, 0), Due.BEYOND);
        for (int sheet = 0; sheet < 4; sheet++) {
            Due.due("SHEET " + sheet + " is missing", x.judge(sheet), Due.NONE);
        }
        Due.due("no IMAGE", x.restore(), Due.NONE);
        Due.due("no TRACE", x.trace(0), Due.NONE);
        Due.due("MEETS has no TEXT", x.law(0, 0, 0, 0), 1);
        Due.due("DEEDS has no TEXT", x.law(1, 6, 0, 0), 1);
        Due.due("told", x.told(1), 1);
        Due.due("told", x.told(2), 6);
        for (int k = 3; k <= 5; k++) {
            Due.due("told", x.told(k), 0);
        }
    }

    private static void numbers() {
        Edge.of(2, "One of PEOPLE (km: 10 times the KIND, and m) AT a STREET: the number.");
        int[] km = {0, 9, 10, 19, 20, 59, 60, 69};
        int[] street = {0, 7, 1, 6, 2, 5, 3, 4};
        ImmunityCatching x = new ImmunityCatching();
        for (int i = 0; i < 8; i++) {
            Due.due("soul(" + km[i] + ", " + street[i] + ")", x.soul(km[i], street[i]), i);
        }
        for (int i = 0; i < 8; i++) {
            Due.due("KIND of " + i, x.ofSoul(i, 0), km[i] / 10);
            Due.due("m of " + i, x.ofSoul(i, 1), km[i] % 10);
            Due.due("AT of " + i, x.ofSoul(i, 2), street[i]);
        }
    }

    private static void soulBeyond() {
        Edge.of(2, "BEYOND.");
        ImmunityCatching x = new ImmunityCatching();
        for (int km : new int[] {-1, -10, 70, 100, Due.MIN, Due.MAX}) {
            Due.due("km " + km, x.soul(km, 0), Due.BEYOND);
        }
        for (int street : new int[] {-1, 8, Due.MIN, Due.MAX}) {
            Due.due("STREET " + street, x.soul(0, street), Due.BEYOND);
        }
        Due.due("nobody came", x.count(0), 0);
        Due.due("km 69, STREET 7", x.soul(69, 7), 0);
        Due.due("km 0, STREET 0", x.soul(0, 0), 1);
    }

    private static void soulFull() {
        Edge.of(2, "FULL.");
        ImmunityCatching x = Due.with(0, 0, 0, 0, 0, 0, 0, 0, 0, 0, 0, 0, 0, 0);
        Due.due("an eighth", x.soul(0, 0), 7);
        Due.due("a ninth", x.soul(0, 0), Due.FULL);
        Due.due("a ninth, again", x.soul(69, 7), Due.FULL);
        Due.due("eight", x.count(0), 8);
        Due.due("told", x.told(4), 2);
    }

    private static void ofSoulBeyond() {
        Edge.of(3, "BEYOND.");
        ImmunityCatching x = Due.with(0, 3);
        for (int soul : NOBODY) {
            Due.due("of " + soul, x.ofSoul(soul, 0), Due.BEYOND);
        }
        Due.due("of 1, who isn't there yet", x.ofSoul(1, 0), Due.BEYOND);
        for (int what : new int[] {-1, 9, Due.MIN, Due.MAX}) {
            Due.due("what " + what, x.ofSoul(0, what), Due.BEYOND);
        }
        int[] want = {0, 0, 3, 0, 0, 0, 0, 0, 1};
        for (int what = 0; what <= 8; what++) {
            Due.due("what " + what, x.ofSoul(0, what), want[what]);
        }
    }

    private static void changeAll() {
        Edge.of(4, "AT (what 0), FREE (1), GLOVES (2), DEEDS (3) of one becomes v: what it was.");
        int[] most = {7, 99, 1, 9999};
        ImmunityCatching x = Due.with(0, 3, 0, 3, 0, 3);
        for (int what = 0; what < 4; what++) {
            int first = what == 0 ? 3 : 0;
            Due.due("to the most, what " + what, x.change(1, what, most[what]), first);
            Due.due("to 0, what " + what, x.change(1, what, 0), most[what]);
            Due.due("to the most again, what " + what, x.change(1, what, most[what]), 0);
            Due.due("it is so, what " + what, x.ofSoul(1, what + 2), most[what]);
            Due.due("of the one ahead it stays, what " + what, x.ofSoul(0, what + 2), first);
            Due.due("of the next it stays, what " + what, x.ofSoul(2, what + 2), first);
        }
    }

    private static void changeBeyond() {
        Edge.of(4, "BEYOND.");
        int[] most = {7, 99, 1, 9999};
        ImmunityCatching x = Due.with(0, 3);
        for (int what = 0; what < 4; what++) {
            for (int v : new int[] {-1, most[what] + 1, Due.MIN, Due.MAX}) {
                Due.due("to " + v + ", what " + what, x.change(0, what, v), Due.BEYOND);
            }
            Due.due("it stays, what " + what, x.ofSoul(0, what + 2), what == 0 ? 3 : 0);
        }
        for (int what : new int[] {-1, 4, Due.MIN, Due.MAX}) {
            Due.due("what " + what, x.change(0, what, 0), Due.BEYOND);
        }
        for (int soul : NOBODY) {
            Due.due("of " + soul, x.change(soul, 1, 0), Due.BEYOND);
        }
        Due.due("of 1, who isn't there yet", x.change(1, 1, 5), Due.BEYOND);
        x.soul(0, 0);
        Due.due("1 comes FREE for none", x.ofSoul(1, 3), 0);
    }

    private static void becomeBeyond() {
        Edge.of(5, "One becomes one of a KIND, with m (km): the KIND that it was. BEYOND.");
        ImmunityCatching x = Due.with(34, 0);
        for (int km : new int[] {-1, 70, Due.MIN, Due.MAX}) {
            Due.due("km " + km, x.become(0, km), Due.BEYOND);
        }
        for (int soul : NOBODY) {
            Due.due("of " + soul, x.become(soul, 0), Due.BEYOND);
        }
        Due.due("of 1, who isn't there yet", x.become(1, 0), Due.BEYOND);
        Due.due("KIND stays", x.ofSoul(0, 0), 3);
        Due.due("m stays", x.ofSoul(0, 1), 4);
        Due.due("km 69", x.become(0, 69), 3);
        Due.due("m", x.ofSoul(0, 1), 9);
        Due.due("km 0", x.become(0, 0), 6);
        Due.due("m", x.ofSoul(0, 1), 0);
        Due.due("the same again", x.become(0, 0), 0);
    }

    private static void asBeyond() {
        Edge.of(6, "One as one of a KIND: m. BEYOND.");
        ImmunityCatching x = Due.with(69, 0);
        for (int kind : new int[] {-1, 7, Due.MIN, Due.MAX}) {
            Due.due("as " + kind, x.as(0, kind), Due.BEYOND);
        }
        for (int soul : NOBODY) {
            Due.due("of " + soul, x.as(soul, 0), Due.BEYOND);
        }
        Due.due("of 1, who isn't there yet", x.as(1, 0), Due.BEYOND);
        Due.due("as 0", x.as(0, 0), 9);
        Due.due("as 6", x.as(0, 6), 9);
    }

    private static void asKind() {
        Edge.of(6, "KIND: it isn't of that KIND, nor of one under it.");
        String[] fits = {"0", "01", "02", "03", "014", "025", "036"};
        for (int kind = 0; kind < 7; kind++) {
            ImmunityCatching x = Due.with(10 * kind + 5, 0);
            for (int as = 0; as < 7; as++) {
                int want = fits[kind].indexOf('0' + as) >= 0 ? 5 : Due.KIND;
                Due.due("KIND " + kind + " as " + as, x.as(0, as), want);
            }
            Due.due("told", x.told(5), 7 - fits[kind].length());
        }
    }

    private static void lossBeyond() {
        Edge.of(7, "LOSS becomes v: what it was. BEYOND.");
        ImmunityCatching x = new ImmunityCatching();
        Due.due("9", x.loss(9), 1);
        for (int v : new int[] {0, -1, 10, Due.MIN, Due.MAX}) {
            Due.due("loss(" + v + ")", x.loss(v), Due.BEYOND);
        }
        Due.due("1", x.loss(1), 9);
        Due.due("LOSS", x.count(2), 1);
    }

    private static void streetSets() {
        Edge.of(8, "What 0 who are AT a STREET, as a set, 1 who of them are FREE.");
        ImmunityCatching x = Due.with(0, 7, 0, 0, 0, 7, 0, 0, 0, 0, 0, 0, 0, 0, 0, 7);
        Due.due("AT 7, the first and the last of eight", x.street(7, 0), 0b10000101);
        Due.due("AT 0", x.street(0, 0), 0b01111010);
        Due.due("AT 6, nobody", x.street(6, 0), 0);
        Due.due("nobody FREE AT 7", x.street(7, 1), 0);
        x.change(7, 1, 1);
        x.change(1, 1, 99);
        Due.due("one FREE AT 7", x.street(7, 1), 0b10000000);
        Due.due("one FREE AT 0", x.street(0, 1), 0b00000010);
    }

    private static void streetBeyond() {
        Edge.of(8, "BEYOND.");
        ImmunityCatching x = Due.with(0, 0, 0, 7);
        for (int street : new int[] {-1, 8, Due.MIN, Due.MAX}) {
            Due.due("STREET " + street, x.street(street, 0), Due.BEYOND);
        }
        for (int what : new int[] {-1, 2, Due.MIN, Due.MAX}) {
            Due.due("what " + what, x.street(0, what), Due.BEYOND);
        }
        Due.due("STREET 0", x.street(0, 0), 1);
        Due.due("STREET 7", x.street(7, 0), 2);
    }

    private static void meetBeyond() {
        Edge.of(9, "Whether two MEET now (1, 0). BEYOND");
        ImmunityCatching x = Due.with(0, 0, 0, 0);
        for (int soul : NOBODY) {
            Due.due("of " + soul, x.meet(soul, 0), Due.BEYOND);
            Due.due("with " + soul, x.meet(0, soul), Due.BEYOND);
        }
        Due.due("with 2, who isn't there yet", x.meet(0, 2), Due.BEYOND);
        Due.due("of 2, who isn't there yet", x.meet(2, 0), Due.BEYOND);
        Due.due("1 with 0", x.meet(1, 0), 1);
        x.change(0, 0, 1);
        Due.due("AT unlike STREETS", x.meet(1, 0), 0);
    }

    private static void meetOneself() {
        Edge.of(9, "BEYOND: also one and the same.");
        ImmunityCatching x = Due.with(0, 0, 0, 0);
        Due.due("0 with 0", x.meet(0, 0), Due.BEYOND);
        Due.due("1 with 1", x.meet(1, 1), Due.BEYOND);
        Due.due("told", x.told(1), 2);
    }
}
