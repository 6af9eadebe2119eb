/** Edges of "Terms" 3 as far as they tell what would be, and of promises 15 to 25. */
final class WouldBeEdges {
    private static final int[] NOT_TO_60 = {-1, 61, Due.MIN, Due.MAX};
    private static final int[] NOT_TO_20 = {-1, 21, 60, Due.MIN, Due.MAX};
    private static final int[] NOT_0_OR_1 = {-1, 2, Due.MIN, Due.MAX};
    /** Of two. */
    private static final int[] NOBODY = {-1, 2, 8, Due.MIN, Due.MAX};

    private WouldBeEdges() {
    }

    static void all() {
        stepsBeyondTheLast();
        behind();
        thenBeyond();
        mostOfTheNext();
        lastOfSeveral();
        lastBeyond();
        lastNone();
        reachesFirst();
        reachesBeyond();
        reachesNone();
        glovesFromNowOn();
        glovesByN();
        glovesOfSeveral();
        glovesBeyond();
        glovesNone();
        fromBehind();
        fromSet();
        fromBeyond();
        fromNone();
        standOfSeveral();
        standBeyond();
        crushOfSeveral();
        crushBeyond();
        diesFirst();
        diesNone();
        touchOfSeveral();
        touchNobody();
        touchBeyond();
        doneByN();
        doneBeyond();
        oddsInLowestTerms();
        oddsBeyond();
    }

    private static void stepsBeyondTheLast() {
        Edge.of(Edge.TERMS, "(All this is only thought, STEP beyond 9999, too.)");
        ImmunityCatching x = Due.with(40, 0, 0, 1, 10, 1);
        Due.text(x, 0, "h=0");
        Due.goToLastStep(x);
        for (int i = 0; i < 3; i++) {
            x.change(i, 1, 0);
            x.change(i, 3, 0);
        }
        // 7 divides 10003, the fifth STEP from here, and 24 divides 10008, the tenth.
        Due.due("NUNCIO behind 4", x.then(4, 0, 0), 9);
        Due.due("NUNCIO behind 5", x.then(5, 0, 0), 29);
        Due.due("they MEET in the tenth", x.reaches(1), 10);
        Due.due("last", x.last(60, 1), 60);
        Due.due("gloves", x.gloves(2, 20), 0);
        Due.due("stand: by the NUNCIO, who has 25 of the fifth left in the tenth", x.stand(1, 10, 0), 0);
        Due.due("stand, HOURS", x.stand(1, 10, 1), 23);
        Due.due("crush", x.crush(60, 0), 1);
        Due.due("dies: nobody is FREE now", x.dies(), 0);
        Due.due("touch", x.touch(1, 10, 0), 0);
        Due.due("touch, HOURS", x.touch(1, 10, 1), 23);
        Due.due("done", x.done(9), 18);
        Due.due("done, and one by the SOUL, who has 9 in the tenth", x.done(10), 21);
        Due.due("odds", x.odds(1, 10, 0), 8);
        Due.due("odds", x.odds(1, 10, 1), 9);
        x.tell(9 + 9);
        Due.due("check", x.check(), 0);
        Due.row(x, 0, 8, 9, 0, 9, 1);
        Due.due("from", x.from(0, 0), 7);
        Due.due("STEP", x.count(1), 9999);
        Due.due("z", x.count(10), 1);
        Due.due("FREE of all", x.count(3), 0);
        Due.due("not in truth", x.steps(1), Due.STATE);
    }

    private static void behind() {
        Edge.of(Edge.TERMS, "BEHIND n STEPS (0 to 60).");
        ImmunityCatching x = Due.with(0, 0, 61, 7);
        Due.text(x, 0, "0");
        x.change(0, 1, 61);
        x.change(0, 3, 9950);
        Due.due("FREE behind 0", x.then(0, 0, 0), 61);
        Due.due("FREE behind 1", x.then(1, 0, 0), 60);
        Due.due("FREE behind 60", x.then(60, 0, 0), 1);
        Due.due("DEEDS behind 0", x.then(0, 0, 2), 9950);
        Due.due("DEEDS behind 49", x.then(49, 0, 2), 9999);
        Due.due("DEEDS behind 60", x.then(60, 0, 2), 9999);
        Due.due("AT behind 0", x.then(0, 1, 1), 7);
        Due.due("AT behind 1", x.then(1, 1, 1), 0);
        Due.due("AT behind 60", x.then(60, 1, 1), 3);
        x.change(0, 1, 60);
        Due.due("FREE behind 60, of 60", x.then(60, 0, 0), 0);
        x.change(0, 1, 59);
        Due.due("FREE behind 60, of 59", x.then(60, 0, 0), 0);
        x = Due.with(0, 0, 0, 0, 0, 0, 0, 0, 0, 0, 0, 0, 0, 0, 61, 7);
        x.change(7, 1, 40);
        x.change(7, 3, 900);
        Due.due("FREE of the last of eight", x.then(1, 7, 0), 40);
        Due.due("AT of the last of eight", x.then(1, 7, 1), 0);
        Due.due("DEEDS of the last of eight", x.then(1, 7, 2), 901);
    }

    private static void thenBeyond() {
        Edge.of(15, "BEHIND n STEPS, of one: what 0 FREE, 1 AT, 2 DEEDS. BEYOND.");
        ImmunityCatching x = Due.with(0, 5, 0, 6);
        for (int n : NOT_TO_60) {
            Due.due("n " + n, x.then(n, 0, 0), Due.BEYOND);
        }
        for (int soul : NOBODY) {
            Due.due("of " + soul, x.then(0, soul, 0), Due.BEYOND);
        }
        for (int what : new int[] {-1, 3, Due.MIN, Due.MAX}) {
            Due.due("what " + what, x.then(0, 0, what), Due.BEYOND);
        }
        Due.due("n 60, what 0", x.then(60, 1, 0), 0);
        Due.due("n 0, what 1", x.then(0, 1, 1), 6);
        Due.due("n 60, what 2", x.then(60, 1, 2), 0);
        Due.due("nobody", new ImmunityCatching().then(0, 0, 0), Due.BEYOND);
    }

    private static void mostOfTheNext() {
        Edge.of(Edge.TERMS, "LAST: who is FREE at the end of most of the next n STEPS (1 to 60)");
        int[][] freeNAndMany = {{0, 60, 0}, {1, 1, 0}, {1, 60, 0}, {2, 1, 1}, {2, 60, 1}, {60, 60, 59}, {61, 60, 60},
            {99, 60, 60}, {99, 1, 1}};
        for (int[] given : freeNAndMany) {
            ImmunityCatching x = Due.with(0, 0, 0, 1);
            x.change(1, 1, given[0]);
            Due.due("who, of " + given[0] + " by " + given[1], x.last(given[1], 0), given[2] > 0 ? 1 : 0);
            Due.due("for how many, of " + given[0] + " by " + given[1], x.last(given[1], 1), given[2]);
        }
        ImmunityCatching x = Due.with(0, 0, 20, 1, 50, 2);
        x.change(0, 1, 3);
        x.change(1, 1, 7);
        x.change(2, 1, 9);
        Due.due("at the end of most, not for most HOURS", x.last(9, 0), 1);
        Due.due("7, 5, 3, 1, 0", x.last(9, 1), 3);
    }

    private static void lastOfSeveral() {
        Edge.of(Edge.TERMS, "of several the least; for how many.");
        ImmunityCatching x = Due.with(0, 0, 0, 1, 0, 2, 0, 3, 0, 4, 0, 5, 0, 6, 0, 7);
        Due.due("of eight for none", x.last(60, 0), 0);
        x.change(7, 1, 5);
        Due.due("the last of eight", x.last(60, 0), 7);
        x.change(3, 1, 5);
        Due.due("of 3 and 7", x.last(60, 0), 3);
        Due.due("for how many", x.last(60, 1), 4);
        x.change(0, 1, 4);
        Due.due("0 is so for less", x.last(60, 0), 3);
        Due.due("but not by 3", x.last(3, 0), 0);
    }

    private static void lastBeyond() {
        Edge.of(16, "LAST: what 0 who, 1 for how many. BEYOND.");
        ImmunityCatching x = Due.with(0, 0);
        for (int n : new int[] {0, -1, 61, Due.MIN, Due.MAX}) {
            Due.due("n " + n, x.last(n, 0), Due.BEYOND);
        }
        for (int what : NOT_0_OR_1) {
            Due.due("what " + what, x.last(1, what), Due.BEYOND);
        }
        Due.due("n 1", x.last(1, 0), 0);
        Due.due("n 60", x.last(60, 1), 0);
    }

    private static void lastNone() {
        Edge.of(16, "NONE: there is nobody.");
        ImmunityCatching x = new ImmunityCatching();
        Due.due("who", x.last(1, 0), Due.NONE);
        Due.due("for how many", x.last(60, 1), Due.NONE);
        x.soul(0, 0);
        Due.due("there is one", x.last(1, 0), 0);
        Due.due("told", x.told(2), 2);
    }

    private static void reachesFirst() {
        Edge.of(Edge.TERMS, "REACHES one: behind how many STEPS (0 to 60) one is FREE first.");
        ImmunityCatching x = Due.with(0, 0, 10, 0, 61, 7, 0, 7);
        x.change(0, 1, 1);
        Due.due("who is FREE now, though not behind 1", x.reaches(0), 0);
        Due.due("ENVOY", x.reaches(1), 1);
        Due.due("a CHILD who comes by in the second STEP", x.reaches(2), 2);
        Due.due("one to whom the CHILD comes back, behind 8", x.reaches(3), 9);
        // CHILDREN who stay have 1, 2, 3 more when they MEET, once a day; of 3 a BEGGAR has 1 left.
        x = Due.with(68, 0, 68, 0, 20, 0);
        Due.text(x, 0, "h=11");
        Due.due("behind 60", x.reaches(2), 60);
        x.steps(1);
        Due.due("behind 59", x.reaches(2), 59);
    }

    private static void reachesBeyond() {
        Edge.of(17, "REACHES. BEYOND.");
        ImmunityCatching x = Due.with(10, 0, 10, 0);
        for (int soul : NOBODY) {
            Due.due("of " + soul, x.reaches(soul), Due.BEYOND);
        }
        Due.due("of 1", x.reaches(1), 1);
        Due.due("nobody", new ImmunityCatching().reaches(0), Due.BEYOND);
    }

    private static void reachesNone() {
        Edge.of(17, "NONE: not by 60.");
        ImmunityCatching x = Due.with(0, 0);
        Due.due("never", x.reaches(0), Due.NONE);
        x = Due.with(68, 0, 68, 0, 20, 0);
        Due.text(x, 0, "h=12");
        Due.due("behind 61", x.reaches(2), Due.NONE);
        x.steps(1);
        Due.due("behind 60", x.reaches(2), 60);
        Due.due("told", x.told(2), 1);
    }

    private static void glovesFromNowOn() {
        Edge.of(Edge.TERMS, "were they to wear GLOVES from now on (the others as they are), make that nobody is FREE AT "
            + "that STREET behind 1, 2, .. n STEPS");
        ImmunityCatching x = Due.with(10, 0, 31, 0);
        Due.due("the ENVOY, so that the THIEF has none", x.gloves(1, 20), 1);
        x.change(1, 2, 1);
        Due.due("the THIEF has them on", x.gloves(1, 20), 0);
        Due.due("GLOVES are only thought", x.count(6), 2);
        x = Due.with(31, 0, 31, 0);
        x.change(0, 1, 50);
        x.change(1, 1, 50);
        Due.due("both", x.gloves(1, 1), 3);
        x.change(0, 2, 1);
        Due.due("0 has them on", x.gloves(1, 1), 2);
        x = Due.with(31, 0);
        x.change(0, 1, 50);
        Due.due("who is FREE there now, and goes", x.gloves(0, 1), 0);
        x = Due.with(0, 0);
        x.change(0, 1, 1);
        Due.due("who is FREE there now, not behind 1", x.gloves(0, 20), 0);
        x.change(0, 1, 2);
        Due.due("who is FREE there behind 1", x.gloves(0, 20), Due.NONE);
    }

    private static void glovesByN() {
        Edge.of(Edge.TERMS, "GLOVES for a STREET by n (0 to 20)");
        // In STEP 18 the THIEF, who comes from 4, is AT 6 and MEETS the ENVOY; behind 19 he is AT 7, behind 20 AT 0.
        ImmunityCatching x = Due.with(10, 6, 31, 4);
        Due.text(x, 0, "h=18");
        Due.due("AT 7 by 18", x.gloves(7, 18), 0);
        Due.due("AT 7 by 19", x.gloves(7, 19), 1);
        Due.due("AT 7 by 20", x.gloves(7, 20), 1);
        Due.due("AT 0 by 19", x.gloves(0, 19), 0);
        Due.due("AT 0 by 20", x.gloves(0, 20), 1);
        Due.due("AT 1 by 20", x.gloves(1, 20), 0);
        Due.due("AT 6 by 0", x.gloves(6, 0), 0);
        Due.due("AT 6 by 1", x.gloves(6, 1), Due.NONE);
    }

    private static void glovesOfSeveral() {
        Edge.of(Edge.TERMS, "of several sets the least.");
        Due.due("one: 0 or 1", Due.with(10, 0, 31, 0).gloves(1, 1), 1);
        Due.due("one: 0 or 1, the other way", Due.with(31, 0, 10, 0).gloves(1, 1), 1);
        Due.due("{2} is fewer than {0, 1}", Due.with(10, 0, 10, 0, 31, 0).gloves(1, 1), 4);
        Due.due("{0, 1} or {2, 3}", Due.with(10, 0, 10, 0, 31, 0, 31, 0).gloves(1, 1), 3);
        Due.due("{0, 2} or {1, 3}", Due.with(31, 0, 10, 0, 31, 0, 10, 0).gloves(1, 1), 5);
        Due.due("{1, 2} or {0, 3}", Due.with(31, 0, 10, 0, 10, 0, 31, 0).gloves(1, 1), 6);
        ImmunityCatching x = Due.with(31, 0, 31, 0, 31, 0, 31, 0, 31, 0, 31, 0, 31, 0, 31, 0);
        for (int i = 0; i < 8; i++) {
            x.change(i, 1, 50);
        }
        Due.due("all eight", x.gloves(1, 1), 255);
        x.change(3, 0, 4);
        Due.due("all but 3", x.gloves(1, 1), 247);
        x = Due.with(0, 1, 0, 1, 0, 1, 0, 1, 0, 1, 0, 1, 0, 1, 31, 0);
        x.change(7, 1, 50);
        Due.due("the last of eight", x.gloves(1, 1), 128);
    }

    private static void glovesBeyond() {
        Edge.of(18, "GLOVES: the set. BEYOND.");
        ImmunityCatching x = Due.with(0, 0);
        for (int street : new int[] {-1, 8, Due.MIN, Due.MAX}) {
            Due.due("STREET " + street, x.gloves(street, 0), Due.BEYOND);
        }
        for (int n : NOT_TO_20) {
            Due.due("n " + n, x.gloves(0, n), Due.BEYOND);
        }
        Due.due("STREET 0, n 0", x.gloves(0, 0), 0);
        Due.due("STREET 7, n 20", x.gloves(7, 20), 0);
        Due.due("nobody", new ImmunityCatching().gloves(7, 20), 0);
    }

    private static void glovesNone() {
        Edge.of(18, "NONE: not by all.");
        ImmunityCatching x = Due.with(0, 0, 10, 3);
        Due.due("an ENVOY who stays", x.gloves(3, 1), Due.NONE);
        x = Due.with(31, 0, 31, 1);
        x.change(0, 1, 50);
        x.change(1, 1, 50);
        Due.due("one who comes, and one who stays, were he to wear them", x.gloves(1, 1), 1);
        Due.due("who would stay with GLOVES goes without", x.gloves(0, 1), 0);
        x.change(1, 2, 1);
        Due.due("one who stays", x.gloves(1, 1), Due.NONE);
        Due.due("told", x.told(2), 1);
    }

    private static void froms(String what, ImmunityCatching x, int set) {
        Due.due(what + ", the set", x.from(3, 0), set);
        Due.due(what + ", how many", x.from(3, 1), Integer.bitCount(set));
    }

    private static void fromBehind() {
        Edge.of(Edge.TERMS, "FROM: a SHEET tells FREE of PEOPLE 0, 1, .. behind so many STEPS as its last number tells "
            + "(0 to 20)");
        ImmunityCatching x = Due.with(0, 0, 0, 1);
        x.change(0, 1, 99);
        x.change(1, 1, 21);
        Due.row(x, 3, 8, 99, 0, 0);
        froms("behind 0", x, 1);
        Due.row(x, 3, 8, 0, 21, 0);
        froms("behind 0, of the other", x, 2);
        Due.row(x, 3, 16, 79, 0, 20);
        froms("behind 20", x, 1);
        Due.row(x, 3, 32, 0, 1, 20);
        froms("behind 20, of the other", x, 2);
        Due.row(x, 3, 32, 79, 1, 20);
        froms("of both", x, 0);
        x.change(1, 1, 20);
        Due.row(x, 3, 32, 0, 0, 20);
        froms("behind 20 none is left", x, 2);
    }

    private static void fromSet() {
        Edge.of(Edge.TERMS, "who, being FREE for as many HOURS as one is now, all others for none, leaves it so: "
            + "as a set; how many.");
        ImmunityCatching x = Due.with(0, 0, 0, 1, 0, 2, 0, 3, 0, 4, 0, 5, 0, 6, 0, 7);
        Due.row(x, 3, 8, 0, 0, 0, 0, 0, 0, 0, 0, 20);
        froms("all eight", x, 255);
        for (int i = 0; i < 8; i++) {
            x.change(i, 1, 30);
        }
        froms("none of eight", x, 0);
        x.put(3, 7, 10);
        froms("the last of eight", x, 128);
        Due.due("FREE is as it was", x.count(3), 240);
        x = new ImmunityCatching();
        Due.row(x, 3, 8, 20);
        froms("nobody", x, 0);
    }

    private static void fromBeyond() {
        Edge.of(19, "FROM, by a SHEET: what 0 the set, 1 how many. BEYOND.");
        ImmunityCatching x = Due.with(0, 0);
        for (int sheet = 0; sheet < 4; sheet++) {
            Due.row(x, sheet, 8, 0, 0);
            Due.due("SHEET " + sheet, x.from(sheet, 0), 1);
        }
        for (int sheet : new int[] {-1, 4, Due.MIN, Due.MAX}) {
            Due.due("SHEET " + sheet, x.from(sheet, 0), Due.BEYOND);
        }
        for (int what : NOT_0_OR_1) {
            Due.due("what " + what, x.from(0, what), Due.BEYOND);
        }
    }

    private static void fromNone() {
        Edge.of(19, "NONE: the SHEET is missing, has not one more number than there are PEOPLE, its last one is none of "
            + "these.");
        ImmunityCatching x = Due.with(0, 0, 0, 0);
        Due.due("missing", x.from(3, 0), Due.NONE);
        for (int many = 0; many <= 40; many++) {
            x.sheet(3, 8, many);
            Due.due(many + " numbers", x.from(3, 0), many == 3 ? 3 : Due.NONE);
        }
        for (int bits = 8; bits <= 32; bits *= 2) {
            for (int last : new int[] {-1, 21, 60, 127, 128, 255, Due.MAX}) {
                Due.row(x, 3, bits, 0, 0, last);
                Due.due("the last one is " + last, x.from(3, 0), Due.NONE);
            }
            Due.row(x, 3, bits, 0, 0, 20);
            Due.due("the last one is 20", x.from(3, 0), 3);
        }
        Due.row(x, 3, 32, 0, 0, Due.MIN);
        Due.due("the last one is the least", x.from(3, 0), Due.NONE);
        x.sheet(3, 0, 0);
        Due.due("missing again", x.from(3, 1), Due.NONE);
        x = new ImmunityCatching();
        x.sheet(3, 8, 0);
        Due.due("nobody, no number", x.from(3, 0), Due.NONE);
    }

    private static void standOfSeveral() {
        Edge.of(Edge.TERMS, "STAND of one by n (0 to 20): the STREET AT which, were one there now, one is FREE for most "
            + "HOURS behind n STEPS; of several the least; how many.");
        ImmunityCatching x = Due.with(0, 3);
        x.change(0, 1, 25);
        Due.due("alone, by 0", x.stand(0, 0, 0), 0);
        Due.due("alone, HOURS by 0", x.stand(0, 0, 1), 25);
        Due.due("alone, by 20", x.stand(0, 20, 0), 0);
        Due.due("alone, HOURS by 20", x.stand(0, 20, 1), 5);
        x = Due.with(0, 3, 15, 7);
        Due.due("the last STREET", x.stand(0, 1, 0), 7);
        Due.due("HOURS", x.stand(0, 1, 1), 13);
        x.soul(15, 2);
        Due.due("of 2 and 7", x.stand(0, 1, 0), 2);
        x.soul(15, 0);
        Due.due("of 0, 2 and 7", x.stand(0, 1, 0), 0);
        x.become(2, 16);
        Due.due("2 is more", x.stand(0, 1, 0), 2);
        Due.due("HOURS", x.stand(0, 1, 1), 14);
        Due.due("one is AT 3 as before", x.ofSoul(0, 2), 3);
        // Were the first nowhere, the ENVOY and the other THIEF would MEET, and the THIEVES behind that.
        x = Due.with(31, 0, 10, 0, 31, 0);
        Due.text(x, 0, "n=2&s=h");
        Due.due("one is AT one of the eight STREETS", x.stand(0, 2, 1), 0);
        Due.due("the least of eight", x.stand(0, 2, 0), 0);
    }

    private static void standBeyond() {
        Edge.of(20, "STAND: what 0 the STREET, 1 HOURS. BEYOND.");
        ImmunityCatching x = Due.with(0, 0, 0, 0);
        for (int soul : NOBODY) {
            Due.due("of " + soul, x.stand(soul, 0, 0), Due.BEYOND);
        }
        for (int n : NOT_TO_20) {
            Due.due("n " + n, x.stand(0, n, 0), Due.BEYOND);
        }
        for (int what : NOT_0_OR_1) {
            Due.due("what " + what, x.stand(0, 0, what), Due.BEYOND);
        }
        Due.due("n 20", x.stand(1, 20, 1), 0);
    }

    private static void crushOfSeveral() {
        Edge.of(Edge.TERMS, "CRUSH behind n STEPS: the STREET at which most are; of several the least; how many.");
        ImmunityCatching x = new ImmunityCatching();
        Due.due("nobody", x.crush(0, 0), 0);
        Due.due("nobody, how many", x.crush(60, 1), 0);
        x = Due.with(0, 7);
        Due.due("the last STREET", x.crush(0, 0), 7);
        x.soul(31, 5);
        Due.due("of 5 and 7", x.crush(0, 0), 5);
        Due.due("of 6 and 7", x.crush(1, 0), 6);
        Due.due("how many", x.crush(1, 1), 1);
        Due.due("both AT 7", x.crush(2, 1), 2);
        Due.due("of 0 and 7", x.crush(3, 0), 0);
        Due.due("behind 58", x.crush(58, 1), 2);
        Due.due("behind 60", x.crush(60, 0), 1);
        x = Due.with(0, 3, 0, 3, 0, 3, 0, 3, 0, 3, 0, 3, 0, 3, 0, 3);
        Due.due("all eight", x.crush(60, 1), 8);
    }

    private static void crushBeyond() {
        Edge.of(21, "CRUSH, n 0 to 60: what 0 the STREET, 1 how many. BEYOND.");
        ImmunityCatching x = Due.with(0, 4);
        for (int n : NOT_TO_60) {
            Due.due("n " + n, x.crush(n, 0), Due.BEYOND);
        }
        for (int what : NOT_0_OR_1) {
            Due.due("what " + what, x.crush(0, what), Due.BEYOND);
        }
        Due.due("n 0", x.crush(0, 0), 4);
        Due.due("n 60", x.crush(60, 1), 1);
    }

    private static void diesFirst() {
        Edge.of(Edge.TERMS, "DIES: behind how many STEPS (0 to 60) nobody is FREE first.");
        Due.due("nobody at all", new ImmunityCatching().dies(), 0);
        Due.due("an ENVOY, who has none yet", Due.with(10, 0).dies(), 0);
        for (int free = 0; free <= 60; free++) {
            ImmunityCatching x = Due.with(0, 0, 0, 1);
            x.change(1, 1, free);
            Due.due("FREE for " + free, x.dies(), free);
        }
    }

    private static void diesNone() {
        Edge.of(22, "NONE: not by 60.");
        ImmunityCatching x = Due.with(0, 0);
        x.change(0, 1, 61);
        Due.due("behind 61", x.dies(), Due.NONE);
        x.steps(1);
        Due.due("behind 60", x.dies(), 60);
        x = Due.with(60, 0);
        x.change(0, 1, 1);
        Due.due("never", x.dies(), Due.NONE);
    }

    private static void touchOfSeveral() {
        Edge.of(Edge.TERMS, "TOUCH for one by n (0 to 20): who else should be AT one's STREET now (no matter from where), "
            + "so that one is FREE for most HOURS behind n STEPS: the least of several");
        ImmunityCatching x = Due.with(0, 0, 15, 7, 15, 1);
        Due.due("of 1 and 2", x.touch(0, 1, 0), 1);
        Due.due("HOURS", x.touch(0, 1, 1), 13);
        x.become(2, 16);
        Due.due("2 has more", x.touch(0, 1, 0), 2);
        Due.due("HOURS by 20", x.touch(0, 20, 1), 14);
        x = Due.with(0, 0, 0, 1, 0, 2, 0, 3, 0, 4, 0, 5, 0, 6, 10, 7);
        Due.due("the last of eight", x.touch(0, 1, 0), 7);
        Due.due("the first of eight", Due.with(10, 0, 0, 7).touch(1, 1, 0), 0);
        Due.due("all are AT theirs as before", x.street(7, 0), 128);
    }

    private static void touchNobody() {
        Edge.of(Edge.TERMS, "(-1: with nobody it is more, or as much).");
        ImmunityCatching x = Due.with(0, 0);
        x.change(0, 1, 25);
        Due.due("alone", x.touch(0, 20, 0), -1);
        Due.due("alone, HOURS", x.touch(0, 20, 1), 5);
        x.soul(10, 4);
        Due.due("by 0 as much", x.touch(0, 0, 0), -1);
        Due.due("HOURS by 0", x.touch(0, 0, 1), 25);
        x.change(0, 1, 9);
        Due.due("as much", x.touch(0, 1, 0), -1);
        x.change(0, 1, 8);
        Due.due("less", x.touch(0, 1, 0), 1);
        x.change(1, 0, 0);
        Due.due("who is there already is as much", x.touch(0, 1, 0), -1);
        Due.due("HOURS", x.touch(0, 1, 1), 8);
        x.soul(19, 5);
        Due.due("one more, who has more", x.touch(0, 1, 0), 2);
        Due.text(x, 0, "n<3");
        Due.due("with one more it is less", x.touch(0, 1, 0), -1);
        Due.due("HOURS", x.touch(0, 1, 1), 8);
    }

    private static void touchBeyond() {
        Edge.of(23, "TOUCH: what 0 who (-1), 1 HOURS then. BEYOND.");
        ImmunityCatching x = Due.with(0, 0, 0, 0);
        for (int soul : NOBODY) {
            Due.due("of " + soul, x.touch(soul, 0, 0), Due.BEYOND);
        }
        for (int n : NOT_TO_20) {
            Due.due("n " + n, x.touch(0, n, 0), Due.BEYOND);
        }
        for (int what : NOT_0_OR_1) {
            Due.due("what " + what, x.touch(0, 0, what), Due.BEYOND);
        }
        Due.due("n 20", x.touch(1, 20, 0), -1);
    }

    private static void doneByN() {
        Edge.of(24, "DONE, n 0 to 60.");
        ImmunityCatching x = Due.with(10, 0, 10, 1);
        x.change(0, 3, 9939);
        Due.due("by 0", x.done(0), 0);
        Due.due("by 1", x.done(1), 2);
        Due.due("by 60", x.done(60), 120);
        x.change(0, 3, 9940);
        Due.due("by 60, held", x.done(60), 119);
        x.change(0, 3, 9999);
        Due.due("by 60, of one alone", x.done(60), 60);
        Due.due("nobody", new ImmunityCatching().done(60), 0);
    }

    private static void doneBeyond() {
        Edge.of(24, "BEYOND.");
        ImmunityCatching x = Due.with(10, 0);
        for (int n : NOT_TO_60) {
            Due.due("n " + n, x.done(n), Due.BEYOND);
        }
        Due.due("told", x.told(1), 4);
    }

    private static void oddsInLowestTerms() {
        Edge.of(Edge.TERMS, "ODDS: that one is FREE behind n STEPS, LOSS being 1 to 9, each just as likely: a fraction in "
            + "lowest terms (0 is 0 by 1).");
        String[] terms = {"0/1", "0/1", "0/1", "1/9", "2/9", "1/3", "4/9", "5/9", "2/3", "7/9", "8/9", "1/1", "1/1"};
        for (int free = 0; free < terms.length; free++) {
            ImmunityCatching x = Due.with(0, 0, 0, 0);
            x.change(0, 1, free);
            Due.due("above, of " + free, x.odds(1, 1, 0), terms[free].charAt(0) - '0');
            Due.due("below, of " + free, x.odds(1, 1, 1), terms[free].charAt(2) - '0');
            Due.due("above, now", x.odds(1, 0, 0), 0);
            Due.due("below, now", x.odds(1, 0, 1), 1);
            x.loss(9);
            Due.due("LOSS as it is doesn't matter", x.odds(1, 1, 0), terms[free].charAt(0) - '0');
            Due.due("and stays", x.count(2), 9);
        }
        ImmunityCatching x = Due.with(0, 0);
        x.change(0, 1, 60);
        Due.due("behind 59", x.odds(0, 59, 0), 1);
        Due.due("behind 60", x.odds(0, 60, 0), 0);
    }

    private static void oddsBeyond() {
        Edge.of(25, "ODDS, n 0 to 60: part 0 above, 1 below the line. BEYOND.");
        ImmunityCatching x = Due.with(10, 0, 10, 0);
        for (int soul : NOBODY) {
            Due.due("of " + soul, x.odds(soul, 0, 0), Due.BEYOND);
        }
        for (int n : NOT_TO_60) {
            Due.due("n " + n, x.odds(0, n, 0), Due.BEYOND);
        }
        for (int part : NOT_0_OR_1) {
            Due.due("part " + part, x.odds(0, 0, part), Due.BEYOND);
        }
        Due.due("n 0", x.odds(1, 0, 0), 0);
        Due.due("n 60", x.odds(1, 60, 0), 1);
    }
}
