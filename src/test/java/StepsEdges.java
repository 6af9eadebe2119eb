/** Edges of "Terms" 1 and 3 as far as they tell of MEETING, of STEPS and of draws, and of promises 13 and 14. */
final class StepsEdges {
    private StepsEdges() {
    }

    static void all() {
        glovesMeetNobody();
        hourOfDay();
        howManyAreThere();
        ownFirst();
        allAtOnce();
        greatest();
        aboveNought();
        deedsAreHeld();
        runsOut();
        thievesGoRound();
        stepIsOneMore();
        firstDraw();
        drawsWrap();
        drawsShift();
        drawsByFour();
        drawsByNumbers();
        stepsBeyond();
        stepsState();
        looseBeyond();
        looseState();
    }

    private static void frees(ImmunityCatching x, int... want) {
        for (int i = 0; i < want.length; i++) {
            Due.due("FREE of " + i, x.ofSoul(i, 3), want[i]);
        }
    }

    private static void glovesMeetNobody() {
        Edge.of(Edge.TERMS, "They MEET: two AT one STREET, neither with GLOVES");
        for (int gloves = 0; gloves < 4; gloves++) {
            ImmunityCatching x = Due.with(12, 0, 0, 0, 0, 7);
            x.change(0, 2, gloves & 1);
            x.change(1, 2, gloves >> 1);
            Due.due("meet, GLOVES " + gloves, x.meet(0, 1), gloves == 0 ? 1 : 0);
            Due.due("meet, AT unlike STREETS", x.meet(0, 2), 0);
            Due.due("FREE of all", x.steps(1), gloves == 0 ? 11 + 10 : 11);
        }
    }

    private static void hourOfDay() {
        Edge.of(Edge.TERMS, "if the TEXT gives other than 0 for the STREET, the rest of STEP by 24");
        ImmunityCatching x = Due.with(0, 0, 0, 0);
        Due.text(x, 0, "h=23");
        for (int step = 0; step < 50; step++) {
            Due.due("h=23 at STEP " + step, x.meet(0, 1), step == 23 || step == 47 ? 1 : 0);
            x.steps(1);
        }
        x = Due.with(0, 0, 0, 0);
        Due.text(x, 0, "h=0");
        for (int step = 0; step < 50; step++) {
            Due.due("h=0 at STEP " + step, x.meet(0, 1), step == 0 || step == 24 || step == 48 ? 1 : 0);
            x.steps(1);
        }
        x = Due.with(10, 7, 0, 7, 10, 0, 0, 0);
        Due.text(x, 0, "s>6");
        x.steps(1);
        frees(x, 9, 8, 9, 0);
    }

    private static void howManyAreThere() {
        Edge.of(Edge.TERMS, "how many are AT it.");
        ImmunityCatching x = Due.with(10, 3, 0, 3);
        Due.text(x, 0, "n=2");
        Due.due("two", x.meet(0, 1), 1);
        x.soul(0, 3);
        Due.due("three", x.meet(0, 1), 0);
        Due.due("nobody has it of the ENVOY", x.steps(1), 9);
        x.change(2, 2, 1);
        Due.due("three, one with GLOVES", x.meet(0, 1), 0);
        x.change(2, 0, 4);
        Due.due("two, and one elsewhere", x.meet(0, 1), 1);
        Due.due("the other has it of the ENVOY", x.steps(1), 9 + 8);
        x = Due.with(0, 5, 0, 5, 0, 5, 0, 5, 0, 5, 0, 5, 0, 5, 10, 5);
        Due.text(x, 0, "n>7");
        Due.due("eight", x.steps(1), 9 + 7 * 8);
        x.change(3, 0, 6);
        Due.due("seven", x.meet(0, 7), 0);
        for (int street = 0; street < 8; street++) {
            x = Due.with(0, street, 10, street);
            Due.text(x, 0, "n=2");
            for (int step = 0; step < 3; step++) {
                Due.due("two AT " + street + " in STEP " + step, x.steps(1), 9 + 8);
                x.change(0, 1, 0);
            }
        }
    }

    private static void ownFirst() {
        Edge.of(Edge.TERMS, "(1) each has what one KEEPS.");
        ImmunityCatching x = Due.with(0, 0, 15, 0);
        x.steps(1);
        Due.due("what is kept is handed on in the same STEP", x.ofSoul(0, 3), 13);
    }

    private static void allAtOnce() {
        Edge.of(Edge.TERMS, "(2) all at once, by FREE as it is then");
        ImmunityCatching x = Due.with(68, 0, 68, 0, 68, 0);
        x.change(0, 1, 20);
        x.steps(1);
        frees(x, 20, 21, 21);
        x.steps(1);
        frees(x, 22, 22, 22);
        x = Due.with(68, 0, 68, 0, 68, 0);
        x.change(2, 1, 20);
        x.steps(1);
        frees(x, 21, 21, 20);
    }

    private static void greatest() {
        Edge.of(Edge.TERMS, "each has the greatest of FREE and of what all those whom one MEETS hand on.");
        int[][] others = {{30, 40}, {40, 30}};
        for (int[] other : others) {
            for (int own : new int[] {0, 38, 39, 40}) {
                ImmunityCatching x = Due.with(0, 0, 0, 0, 0, 0);
                x.change(0, 1, own);
                x.change(1, 1, other[0]);
                x.change(2, 1, other[1]);
                x.steps(1);
                Due.due("FREE for " + own + " with 30 and 40", x.ofSoul(0, 3), own == 40 ? 39 : 38);
            }
        }
    }

    private static void aboveNought() {
        Edge.of(Edge.TERMS, "(3) each who is FREE (above 0) does what the other TEXT gives of DEEDS more (held).");
        ImmunityCatching x = Due.with(0, 0, 0, 1, 0, 2, 0, 2);
        Due.text(x, 1, "4");
        x.change(1, 1, 1);
        x.change(2, 1, 2);
        x.steps(1);
        Due.due("FREE for 0", x.ofSoul(0, 5), 0);
        Due.due("FREE for 1", x.ofSoul(1, 5), 4);
        Due.due("FREE for 2", x.ofSoul(2, 5), 4);
        Due.due("FREE for 1, by what 2 handed on", x.ofSoul(3, 5), 4);
    }

    private static void deedsAreHeld() {
        Edge.of(Edge.TERMS, "DEEDS more (held).");
        int[][] pairs = {{9989, 9998}, {9990, 9999}, {9991, 9999}, {9999, 9999}};
        for (int[] pair : pairs) {
            ImmunityCatching x = Due.with(10, 0);
            Due.text(x, 1, "9999");
            x.change(0, 3, pair[0]);
            x.steps(1);
            Due.due("9 more than " + pair[0], x.ofSoul(0, 5), pair[1]);
        }
        ImmunityCatching x = Due.with(10, 0);
        Due.text(x, 1, "0-5");
        x.change(0, 3, 3);
        x.steps(1);
        Due.due("what a TEXT gives below 0 takes none away", x.ofSoul(0, 5), 3);
    }

    private static void runsOut() {
        Edge.of(Edge.TERMS, "(4) FREE is less by what RUNS, 0 at least.");
        int[] km = {0, 20, 30, 31, 50, 60};
        int[] runs = {1, 2, 1, 2, 3, 0};
        for (int i = 0; i < km.length; i++) {
            for (int free = 0; free <= 4; free++) {
                ImmunityCatching x = Due.with(km[i], 0);
                x.change(0, 1, free);
                Due.due("FREE for " + free + " of km " + km[i], x.steps(1), free > runs[i] ? free - runs[i] : 0);
            }
        }
    }

    private static void thievesGoRound() {
        Edge.of(Edge.TERMS, "(5) by numbers: a THIEF, or one under that, without GLOVES goes to the STREET that is m more "
            + "round the ring.");
        int[] goes = {0, 0, 0, 1, 0, 0, 1};
        for (int kind = 0; kind < 7; kind++) {
            for (int gloves = 0; gloves < 2; gloves++) {
                ImmunityCatching x = Due.with(10 * kind + 3, 6);
                x.change(0, 2, gloves);
                x.steps(1);
                Due.due("KIND " + kind + ", GLOVES " + gloves, x.ofSoul(0, 2), goes[kind] == 1 && gloves == 0 ? 1 : 6);
            }
        }
        ImmunityCatching x = Due.with(31, 7, 10, 7, 0, 0);
        x.steps(1);
        Due.due("he goes behind all else: he had it of the ENVOY", x.ofSoul(0, 3), 7);
        Due.due("and hands it on in the next STEP alone", x.ofSoul(2, 3), 0);
        x.steps(1);
        Due.due("AT 0", x.ofSoul(2, 3), 6);
    }

    private static void stepIsOneMore() {
        Edge.of(Edge.TERMS, "STEP is 1 more.");
        ImmunityCatching x = new ImmunityCatching();
        x.steps(1);
        Due.due("of one", x.count(1), 1);
        x.steps(60);
        Due.due("of 60 more", x.count(1), 61);
        x.loose(40);
        Due.due("of 40 by draws", x.count(1), 101);
    }

    /** What z must be, so that the next draw makes it that. */
    private static int seedFor(int z) {
        int inverse = 1;
        for (int i = 0; i < 32; i++) {
            inverse *= 2 - 1103515245 * inverse;
        }
        return (z - 12345) * inverse;
    }

    private static void firstDraw() {
        Edge.of(Edge.TERMS, "z is told (1 at first)");
        ImmunityCatching x = Due.with(0, 0);
        Due.due("1 at first", x.count(10), 1);
        x.loose(1);
        Due.due("the first draw", x.count(10), 1103527590);
        x = new ImmunityCatching();
        x.loose(40);
        Due.due("no PEOPLE, no draw", x.count(10), 1);
    }

    private static void drawsWrap() {
        Edge.of(Edge.TERMS, "each makes it z * 1103515245 + 12345 (an int)");
        int[][] pairs = {{0, 12345}, {-1, -1103502900}, {Due.MIN, Due.MIN + 12345}, {2, (int) 2207042835L}};
        for (int[] pair : pairs) {
            ImmunityCatching x = Due.with(0, 0);
            x.seed(pair[0]);
            x.loose(1);
            Due.due("from " + pair[0], x.count(10), pair[1]);
        }
    }

    private static int goesTo(int z, int street) {
        ImmunityCatching x = Due.with(0, street);
        x.seed(seedFor(z));
        x.loose(1);
        Due.due("z", x.count(10), z);
        return x.ofSoul(0, 2);
    }

    private static void drawsShift() {
        Edge.of(Edge.TERMS, "and gives z >>> 8.");
        Due.due("255 gives 0", goesTo(255, 5), 0);
        Due.due("256 gives 1, and one stays", goesTo(256, 5), 5);
        Due.due("4 * 256 - 1 gives 3, and one stays", goesTo(1023, 5), 5);
        Due.due("4 * 256 gives 4", goesTo(1024, 5), 1);
        Due.due("-1 gives 2^24 - 1, and one stays", goesTo(-1, 5), 5);
        Due.due("-1024 gives 2^24 - 4", goesTo(-1024, 5), 7);
        Due.due("-2048 gives 2^24 - 8", goesTo(-2048, 5), 6);
        Due.due("the least gives 2^23", goesTo(Due.MIN, 5), 0);
        Due.due("the most gives 2^23 - 1, and one stays", goesTo(Due.MAX, 5), 5);
    }

    private static void drawsByFour() {
        Edge.of(Edge.TERMS, "if its rest by 4 is 0, one goes to the STREET that is the rest by 8 of a quarter of it (cut)");
        for (int drawn = 0; drawn <= 36; drawn++) {
            int want = drawn == 0 || drawn == 32 ? 0 : drawn == 36 ? 1 : drawn % 4 == 0 ? drawn / 4 : 3;
            Due.due("a draw of " + drawn, goesTo(drawn * 256, 3), want);
        }
        ImmunityCatching x = Due.with(31, 3);
        x.change(0, 2, 1);
        x.seed(seedFor(28 * 256));
        x.loose(1);
        Due.due("GLOVES don't matter", x.ofSoul(0, 2), 7);
        x = Due.with(31, 3);
        x.seed(seedFor(28 * 256));
        x.loose(1);
        Due.due("a THIEF goes on from there, round the ring", x.ofSoul(0, 2), 0);
    }

    private static void drawsByNumbers() {
        Edge.of(Edge.TERMS, "Each: for each of PEOPLE, by numbers, a draw");
        for (int many = 0; many <= 8; many++) {
            ImmunityCatching x = new ImmunityCatching();
            for (int i = 0; i < many; i++) {
                x.soul(0, 0);
            }
            x.loose(3);
            int z = 1;
            int[] at = new int[8];
            for (int i = 0; i < 3 * many; i++) {
                z = z * 1103515245 + 12345;
                int drawn = z >>> 8;
                at[i % many] = (drawn & 3) == 0 ? drawn >> 2 & 7 : at[i % many];
            }
            Due.due("z behind 3 STEPS of " + many, x.count(10), z);
            for (int i = 0; i < many; i++) {
                Due.due("AT of " + i + " of " + many, x.ofSoul(i, 2), at[i]);
            }
        }
    }

    private static void stepsBeyond() {
        Edge.of(13, "n (1 to 60) STEPS: FREE of all together. BEYOND.");
        ImmunityCatching x = Due.with(0, 0, 0, 1);
        x.change(0, 1, 99);
        x.change(1, 1, 63);
        for (int n : new int[] {0, -1, 61, Due.MIN, Due.MAX}) {
            Due.due("n " + n, x.steps(n), Due.BEYOND);
        }
        Due.due("STEP", x.count(1), 0);
        Due.due("n 1", x.steps(1), 98 + 62);
        Due.due("n 60", x.steps(60), 38 + 2);
        Due.due("STEP", x.count(1), 61);
        Due.due("of nobody", new ImmunityCatching().steps(60), 0);
    }

    private static void stepsState() {
        Edge.of(13, "STATE: STEP would be above 9999.");
        ImmunityCatching x = Due.with(60, 0);
        x.change(0, 1, 7);
        for (int i = 0; i < 166; i++) {
            x.steps(60);
        }
        Due.due("9960 and 60", x.steps(60), Due.STATE);
        Due.due("9960 and 40", x.steps(40), Due.STATE);
        Due.due("STEP", x.count(1), 9960);
        Due.due("9960 and 39", x.steps(39), 7);
        Due.due("STEP", x.count(1), 9999);
        Due.due("9999 and 1", x.steps(1), Due.STATE);
        Due.due("9999 and 60", x.steps(60), Due.STATE);
        Due.due("told", x.told(3), 4);
    }

    private static void looseBeyond() {
        Edge.of(14, "n (1 to 40) STEPS by draws: likewise. BEYOND.");
        ImmunityCatching x = Due.with(0, 0);
        x.change(0, 1, 99);
        for (int n : new int[] {0, -1, 41, 60, Due.MIN, Due.MAX}) {
            Due.due("n " + n, x.loose(n), Due.BEYOND);
        }
        Due.due("STEP", x.count(1), 0);
        Due.due("z", x.count(10), 1);
        Due.due("n 1", x.loose(1), 98);
        Due.due("n 40", x.loose(40), 58);
        Due.due("STEP", x.count(1), 41);
        Due.due("of nobody", new ImmunityCatching().loose(40), 0);
    }

    private static void looseState() {
        Edge.of(14, "STATE: STEP would be above 9999.");
        ImmunityCatching x = Due.with(60, 0);
        x.change(0, 1, 7);
        for (int i = 0; i < 166; i++) {
            x.steps(60);
        }
        Due.due("9960 and 40", x.loose(40), Due.STATE);
        Due.due("STEP", x.count(1), 9960);
        Due.due("z", x.count(10), 1);
        Due.due("9960 and 39", x.loose(39), 7);
        Due.due("STEP", x.count(1), 9999);
        int z = x.count(10);
        Due.due("9999 and 1", x.loose(1), Due.STATE);
        Due.due("z stays", x.count(10), z);
        Due.due("told", x.told(3), 2);
    }
}
