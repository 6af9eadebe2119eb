/** Edges of "What it is", and of "Terms" as far as they tell of ERRORS, STREETS, PEOPLE and KINDS. */
final class TermsEdges {
    private TermsEdges() {
    }

    static void all() {
        lifeOfAnObject();
        errors();
        orderOfErrors();
        orderOfErrorsOfSheets();
        quotients();
        ring();
        stepRange();
        lossRange();
        mostPeople();
        numbersOfPeople();
        hoursFree();
        glovesOrNot();
        deedsRange();
        greaterOfKeepsAndFree();
        nuncioBySeven();
        handsHeldAtTheEnd();
        handsOfBeggar();
        handsOfThief();
        handsOfChild();
        runsByTwo();
        othersAsTheKindAbove();
    }

    private static void lifeOfAnObject() {
        Edge.of("What it is", "An object is used for at most 512 calls after it has been made");
        ImmunityCatching x = new ImmunityCatching();
        for (int i = 1; i <= 512; i++) {
            Due.due("image, as call " + i, x.image(), i);
        }
        x = new ImmunityCatching();
        for (int i = 1; i <= 511; i++) {
            x.told(0);
        }
        Due.due("told, as call 512", x.told(1), 511);
    }

    private static void errors() {
        Edge.of(Edge.TERMS, "ERRORS are answers below -1000000000: LOW is -1000000000; LOW - 1 BEYOND, LOW - 2 NONE, "
            + "LOW - 3 STATE, LOW - 4 FULL, LOW - 5 KIND.");
        ImmunityCatching x = Due.with(0, 0);
        Due.due("BEYOND", x.loss(0), -1000000001);
        Due.due("NONE", x.restore(), -1000000002);
        Due.due("STATE", x.sheet(0, 8, -1), -1000000003);
        for (int i = 0; i < 20; i++) {
            x.tell(0);
        }
        Due.due("FULL", x.tell(0), -1000000004);
        Due.due("KIND", x.as(0, 1), -1000000005);
    }

    private static void orderOfErrors() {
        Edge.of(Edge.TERMS, "Each act tells its ERRORS in the order in which they are asked");
        ImmunityCatching x = Due.with(0, 0, 0, 0, 0, 0, 0, 0, 0, 0, 0, 0, 0, 0, 0, 0);
        Due.due("soul: km BEYOND, ahead of FULL", x.soul(70, 0), Due.BEYOND);
        Due.due("soul: STREET BEYOND, ahead of FULL", x.soul(0, 8), Due.BEYOND);
        Due.due("soul: FULL", x.soul(0, 0), Due.FULL);
        Due.due("as: no such KIND is BEYOND", x.as(0, 7), Due.BEYOND);
        Due.due("as: no such one is BEYOND", x.as(8, 1), Due.BEYOND);
        Due.due("as: KIND", x.as(0, 1), Due.KIND);
        Due.feed(x, "1".repeat(50));
        Due.due("feed: BEYOND below, ahead of FULL", x.feed(0, 0), Due.BEYOND);
        Due.due("feed: BEYOND above, ahead of FULL", x.feed(0, 9), Due.BEYOND);
        Due.due("feed: FULL", x.feed(0, 1), Due.FULL);
        Due.goToLastStep(x);
        Due.due("steps: BEYOND above, ahead of STATE", x.steps(61), Due.BEYOND);
        Due.due("steps: BEYOND below, ahead of STATE", x.steps(0), Due.BEYOND);
        Due.due("steps: STATE", x.steps(1), Due.STATE);
        Due.due("loose: BEYOND above, ahead of STATE", x.loose(41), Due.BEYOND);
        Due.due("loose: BEYOND below, ahead of STATE", x.loose(0), Due.BEYOND);
        Due.due("loose: STATE", x.loose(1), Due.STATE);
        x = new ImmunityCatching();
        Due.due("last: n BEYOND, ahead of NONE", x.last(0, 0), Due.BEYOND);
        Due.due("last: what BEYOND, ahead of NONE", x.last(1, 2), Due.BEYOND);
        Due.due("last: NONE", x.last(1, 0), Due.NONE);
        Due.due("reaches: BEYOND, ahead of NONE", x.reaches(0), Due.BEYOND);
        x = Due.with(10, 0);
        Due.due("gloves: STREET BEYOND, ahead of NONE", x.gloves(8, 1), Due.BEYOND);
        Due.due("gloves: n BEYOND, ahead of NONE", x.gloves(0, 21), Due.BEYOND);
        Due.due("gloves: NONE", x.gloves(0, 1), Due.NONE);
    }

    private static void orderOfErrorsOfSheets() {
        Edge.of(Edge.TERMS, "Each act tells its ERRORS in the order in which they are asked");
        ImmunityCatching x = Due.with(0, 0);
        Due.due("from: what BEYOND, ahead of NONE", x.from(0, 2), Due.BEYOND);
        Due.due("from: NONE", x.from(0, 0), Due.NONE);
        Due.due("sheet: no such SHEET, ahead of STATE", x.sheet(4, 8, -1), Due.BEYOND);
        Due.due("sheet: no such bits, ahead of STATE", x.sheet(0, 9, -1), Due.BEYOND);
        Due.due("sheet: STATE", x.sheet(0, 8, -1), Due.STATE);
        Due.due("put: no such SHEET, ahead of NONE", x.put(4, 0, 0), Due.BEYOND);
        Due.due("put: NONE, ahead of no such number", x.put(0, 9, 0), Due.NONE);
        x.sheet(1, 8, 2);
        x.sheet(2, 16, 2);
        Due.due("put: no such number", x.put(1, 9, 0), Due.BEYOND);
        Due.due("move: no such SHEET, ahead of a missing one", x.move(0, 0, 4, 0, 0), Due.BEYOND);
        Due.due("move: no such SHEET, ahead of a missing other", x.move(4, 0, 0, 0, 0), Due.BEYOND);
        Due.due("move: a missing one, ahead of n", x.move(0, 0, 1, 0, 9), Due.NONE);
        Due.due("move: a missing other, ahead of n", x.move(1, 0, 0, 0, 9), Due.NONE);
        Due.due("move: both missing", x.move(0, 0, 0, 0, -1), Due.NONE);
        Due.due("move: unlike bits, ahead of n", x.move(1, 0, 2, 0, 9), Due.KIND);
        Due.due("move: unlike bits, ahead of n below 0", x.move(2, -1, 1, -1, -1), Due.KIND);
        Due.due("move: n", x.move(1, 0, 1, 0, 9), Due.BEYOND);
    }

    private static void quotients() {
        Edge.of(Edge.TERMS, "Quotients are cut (toward 0).");
        ImmunityCatching x = Due.with(20, 0);
        Due.text(x, 1, "f/2+9");
        Due.due("-7 by 2 is -3", x.law(1, -7, 0, 0), 6);
        Due.due("-1 by 2 is 0", x.law(1, -1, 0, 0), 9);
        Due.due("-8 by 2 is -4", x.law(1, -8, 0, 0), 5);
        Due.text(x, 1, "7/f+9");
        Due.due("7 by -2 is -3", x.law(1, -2, 0, 0), 6);
        x.change(0, 1, 8);
        Due.due("half of 7 is 3", x.ofSoul(0, 7), 3);
    }

    private static int walks(int m, int street) {
        ImmunityCatching x = Due.with(30 + m, street);
        x.steps(1);
        return x.ofSoul(0, 2);
    }

    private static void ring() {
        Edge.of(Edge.TERMS, "STREETS 0 .. 7 stand round a ring (7 is beside 0, too).");
        ImmunityCatching x = new ImmunityCatching();
        Due.due("there is no STREET -1", x.soul(0, -1), Due.BEYOND);
        Due.due("there is no STREET 8", x.soul(0, 8), Due.BEYOND);
        Due.due("there is a STREET 0", x.soul(0, 0), 0);
        Due.due("there is a STREET 7", x.soul(0, 7), 1);
        Due.due("1 more than 7 is 0", walks(1, 7), 0);
        Due.due("1 more than 6 is 7", walks(1, 6), 7);
        Due.due("9 more than 7 is 0", walks(9, 7), 0);
        Due.due("9 more than 6 is 7", walks(9, 6), 7);
        Due.due("8 more than 0 is 0", walks(8, 0), 0);
        Due.due("7 more than 0 is 7", walks(7, 0), 7);
        Due.due("7 more than 1 is 0", walks(7, 1), 0);
    }

    private static void stepRange() {
        Edge.of(Edge.TERMS, "STEP (0 to 9999; 0 at first)");
        ImmunityCatching x = Due.with(0, 0);
        Due.due("0 at first", x.count(1), 0);
        Due.goToLastStep(x);
        Due.due("9999", x.count(1), 9999);
        Due.due("no more by steps", x.steps(1), Due.STATE);
        Due.due("no more by loose", x.loose(1), Due.STATE);
        Due.due("9999 still", x.count(1), 9999);
    }

    private static void lossRange() {
        Edge.of(Edge.TERMS, "LOSS (1 to 9; 1 at first).");
        ImmunityCatching x = Due.with(0, 0);
        Due.due("1 at first", x.count(2), 1);
        x.change(0, 1, 20);
        Due.due("HANDS less 1", x.ofSoul(0, 7), 19);
        for (int loss = 1; loss <= 9; loss++) {
            Due.due("loss(" + loss + ")", x.loss(loss), Math.max(1, loss - 1));
            Due.due("HANDS less " + loss, x.ofSoul(0, 7), 20 - loss);
        }
        Due.due("not 10", x.loss(10), Due.BEYOND);
        Due.due("not 0", x.loss(0), Due.BEYOND);
        Due.due("9 still", x.count(2), 9);
    }

    private static void mostPeople() {
        Edge.of(Edge.TERMS, "PEOPLE 0, 1, .. (at most 8)");
        ImmunityCatching x = new ImmunityCatching();
        for (int i = 0; i < 8; i++) {
            Due.due("PEOPLE ahead of " + i, x.count(0), i);
            Due.due("there is none yet of number " + i, x.ofSoul(i, 0), Due.BEYOND);
            Due.due("soul", x.soul(10 * (i % 7) + i, i), i);
            Due.due("m of " + i, x.ofSoul(i, 1), i);
        }
        Due.due("a ninth", x.soul(0, 0), Due.FULL);
        Due.due("eight", x.count(0), 8);
        Due.due("there is no number 8", x.ofSoul(8, 0), Due.BEYOND);
        Due.due("nobody was put AT 0", x.street(0, 0), 1);
    }

    private static void numbersOfPeople() {
        Edge.of(Edge.TERMS, "with a number m (0 to 9)");
        for (int kind = 0; kind < 7; kind++) {
            ImmunityCatching x = Due.with(10 * kind, 0, 10 * kind + 9, 0);
            Due.due("m 0", x.ofSoul(0, 1), 0);
            Due.due("KIND with m 0", x.ofSoul(0, 0), kind);
            Due.due("m 9", x.ofSoul(1, 1), 9);
            Due.due("KIND with m 9", x.ofSoul(1, 0), kind);
        }
    }

    private static void hoursFree() {
        Edge.of(Edge.TERMS, "FREE for so many HOURS (0 to 99; 0 at first)");
        ImmunityCatching x = Due.with(69, 0, 69, 0);
        Due.due("0 at first", x.ofSoul(0, 3), 0);
        Due.due("99", x.change(0, 1, 99), 0);
        Due.due("not 100", x.change(0, 1, 100), Due.BEYOND);
        Due.due("99 still", x.ofSoul(0, 3), 99);
        x.steps(60);
        Due.due("by what one hands the other it never is above 99", x.ofSoul(0, 3), 99);
        Due.due("nor is the other's", x.ofSoul(1, 3), 99);
        Due.due("0", x.change(0, 1, 0), 99);
        Due.due("not -1", x.change(0, 1, -1), Due.BEYOND);
    }

    private static void glovesOrNot() {
        Edge.of(Edge.TERMS, "GLOVES on (1) or not (0, at first)");
        ImmunityCatching x = Due.with(0, 0);
        Due.due("0 at first", x.ofSoul(0, 4), 0);
        Due.due("on", x.change(0, 2, 1), 0);
        Due.due("not 2", x.change(0, 2, 2), Due.BEYOND);
        Due.due("on still", x.ofSoul(0, 4), 1);
        Due.due("off", x.change(0, 2, 0), 1);
        Due.due("not -1", x.change(0, 2, -1), Due.BEYOND);
        Due.due("off still", x.ofSoul(0, 4), 0);
    }

    private static void deedsRange() {
        Edge.of(Edge.TERMS, "DEEDS (0 to 9999; 0 at first)");
        ImmunityCatching x = Due.with(10, 0);
        Due.due("0 at first", x.ofSoul(0, 5), 0);
        Due.due("9998", x.change(0, 3, 9998), 0);
        x.steps(1);
        Due.due("9999", x.ofSoul(0, 5), 9999);
        x.steps(1);
        Due.due("9999 still", x.ofSoul(0, 5), 9999);
        Due.due("not 10000", x.change(0, 3, 10000), Due.BEYOND);
        Due.due("0", x.change(0, 3, 0), 9999);
        Due.due("not -1", x.change(0, 3, -1), Due.BEYOND);
    }

    private static void greaterOfKeepsAndFree() {
        Edge.of(Edge.TERMS, "one has the greater of these and those FREE");
        int[][] freeAndThen = {{0, 14}, {14, 14}, {15, 14}, {16, 15}, {99, 98}};
        for (int[] pair : freeAndThen) {
            ImmunityCatching x = Due.with(15, 0);
            x.change(0, 1, pair[0]);
            x.steps(1);
            Due.due("an ENVOY who keeps 15, FREE for " + pair[0] + ", behind a STEP", x.ofSoul(0, 3), pair[1]);
        }
    }

    private static void nuncioBySeven() {
        Edge.of(Edge.TERMS, "NUNCIO: as ENVOY, and 20, if 7 divides STEP.");
        ImmunityCatching x = Due.with(40, 0, 49, 1, 19, 2);
        for (int step = 0; step < 30; step++) {
            boolean divides = step == 0 || step == 7 || step == 14 || step == 21 || step == 28;
            Due.due("KEEPS with m 0 at STEP " + step, x.ofSoul(0, 6), divides ? 30 : 10);
            Due.due("KEEPS with m 9 at STEP " + step, x.ofSoul(1, 6), divides ? 39 : 19);
            Due.due("KEEPS of an ENVOY at STEP " + step, x.ofSoul(2, 6), 19);
            x.steps(1);
        }
    }

    private static int hands(int km, int free, int loss) {
        ImmunityCatching x = Due.with(km, 0);
        x.change(0, 1, free);
        x.loss(loss);
        return x.ofSoul(0, 7);
    }

    private static void handsHeldAtTheEnd() {
        Edge.of(Edge.TERMS, "HANDS (what one hands on, of FREE f; 0 to 99, held at the end alone)");
        Due.due("SOUL, 1 above", hands(0, 5, 4), 1);
        Due.due("SOUL, 0", hands(0, 4, 4), 0);
        Due.due("SOUL, 1 below", hands(0, 3, 4), 0);
        Due.due("SOUL, 9 below", hands(0, 0, 9), 0);
        Due.due("CHILD whose THIEF's part is 2 below 0, and 1", hands(60, 0, 2), 0);
        Due.due("CHILD whose THIEF's part is 1 below 0, and 1", hands(60, 0, 1), 0);
        Due.due("CHILD whose THIEF's part is 0, and 1", hands(61, 0, 1), 1);
        Due.due("CHILD whose THIEF's part is 9 below 0, and 1", hands(60, 0, 9), 0);
        Due.due("CHILD whose THIEF's part is 98, and 1", hands(60, 99, 1), 99);
        Due.due("CHILD whose THIEF's part is 99, and 1", hands(61, 99, 1), 99);
    }

    private static void handsOfBeggar() {
        Edge.of(Edge.TERMS, "BEGGAR: half (cut) of that.");
        Due.due("of 2", hands(29, 3, 1), 1);
        Due.due("of 3", hands(29, 4, 1), 1);
        Due.due("of 1", hands(29, 2, 1), 0);
        Due.due("of 0", hands(29, 1, 1), 0);
        Due.due("of -9", hands(29, 0, 9), 0);
        Due.due("of 98", hands(20, 99, 1), 49);
        Due.due("of 97", hands(20, 98, 1), 48);
    }

    private static void handsOfThief() {
        Edge.of(Edge.TERMS, "THIEF: f less LOSS, and m, no more than f.");
        Due.due("1 less than f", hands(34, 10, 5), 9);
        Due.due("f", hands(35, 10, 5), 10);
        Due.due("no more than f", hands(36, 10, 5), 10);
        Due.due("of 99 no more", hands(39, 99, 1), 99);
        Due.due("of 0 none", hands(39, 0, 1), 0);
        Due.due("9 less", hands(30, 10, 9), 1);
        Due.due("below 0", hands(30, 8, 9), 0);
    }

    private static void handsOfChild() {
        Edge.of(Edge.TERMS, "CHILD: as THIEF, and 1.");
        Due.due("as much as f", hands(64, 10, 5), 10);
        Due.due("1 more than f", hands(65, 10, 5), 11);
        Due.due("not 2 more than f", hands(66, 10, 5), 11);
    }

    private static void runsByTwo() {
        Edge.of(Edge.TERMS, "THIEF: 1, and the rest of m by 2.");
        for (int m = 0; m <= 9; m++) {
            ImmunityCatching x = Due.with(30 + m, 0, 60 + m, 0);
            Due.due("THIEF with m " + m, x.ofSoul(0, 8), m == 1 || m == 3 || m == 5 || m == 7 || m == 9 ? 2 : 1);
            Due.due("CHILD with m " + m, x.ofSoul(1, 8), 0);
        }
    }

    private static void othersAsTheKindAbove() {
        Edge.of(Edge.TERMS, "(Others as the KIND above.)");
        int[] keeps = {0, 19, 0, 0, 39, 0, 0};
        int[] hands = {15, 15, 7, 20, 15, 0, 21};
        int[] runs = {1, 1, 2, 2, 1, 3, 0};
        for (int kind = 0; kind < 7; kind++) {
            ImmunityCatching x = Due.with(10 * kind + 9, 0);
            x.change(0, 1, 20);
            x.loss(5);
            Due.due("KEEPS of KIND " + kind, x.ofSoul(0, 6), keeps[kind]);
            Due.due("HANDS of KIND " + kind, x.ofSoul(0, 7), hands[kind]);
            Due.due("RUNS of KIND " + kind, x.ofSoul(0, 8), runs[kind]);
        }
    }
}
