/** Edges of "Terms" 4, SHEETS, and of promises 29 to 33: sheet, put, move, frees, judge. */
final class SheetsEdges {
    private static final int[] NO_SHEET = {-1, 4, Due.MIN, Due.MAX};

    private SheetsEdges() {
    }

    static void all() {
        missingAtFirst();
        allAreNought();
        sheetMissing();
        sheetBeyond();
        sheetState();
        putLowestBits();
        putNoSheet();
        putMissing();
        putNoNumber();
        moveAsTheyWere();
        moveNoSheet();
        moveMissing();
        moveUnlike();
        moveNotThere();
        freesUpTo();
        freesOfNobody();
        freesRefused();
        judgeFirst();
        judgeRefused();
    }

    private static ImmunityCatching five() {
        return Due.with(0, 0, 0, 1, 0, 2, 0, 3, 0, 4);
    }

    /** The numbers of a SHEET can be seen as FREE of PEOPLE alone. */
    private static void holds(String what, ImmunityCatching x, int sheet, int... numbers) {
        Due.due(what + ", how many", x.frees(sheet), numbers.length);
        for (int i = 0; i < numbers.length; i++) {
            Due.due(what + ", number " + i, x.ofSoul(i, 3), numbers[i]);
        }
    }

    private static void missingAtFirst() {
        Edge.of(Edge.TERMS, "SHEETS 0 .. 3 are rows of 8, 16, 32 bits, at most 40 numbers, or missing (as at first).");
        ImmunityCatching x = new ImmunityCatching();
        for (int sheet = 0; sheet < 4; sheet++) {
            Due.due("missing at first", x.put(sheet, 0, 0), Due.NONE);
            for (int bits = 8; bits <= 32; bits *= 2) {
                Due.due("40 of " + bits + " bits", x.sheet(sheet, bits, 40), 1);
                Due.due("the last one", x.put(sheet, 39, -1), 1);
                Due.due("no more", x.put(sheet, 40, -1), Due.BEYOND);
                Due.due("not 41", x.sheet(sheet, bits, 41), Due.BEYOND);
            }
        }
    }

    private static void allAreNought() {
        Edge.of(29, "A SHEET has n numbers, all 0, of so many bits (8, 16, 32; ");
        ImmunityCatching x = five();
        Due.row(x, 2, 32, 1, 2, 3, 4, 5);
        x.sheet(2, 8, 5);
        holds("anew", x, 2, 0, 0, 0, 0, 0);
        Due.row(x, 2, 8, 1, 2, 3, 4, 5);
        x.sheet(2, 8, 2);
        x.sheet(2, 8, 5);
        holds("fewer, then as many again", x, 2, 0, 0, 0, 0, 0);
        Due.row(x, 2, 8, 1, 2, 3, 4, 5);
        x.sheet(2, 0, 0);
        x.sheet(2, 8, 5);
        holds("missing, then there again", x, 2, 0, 0, 0, 0, 0);
        x.sheet(2, 16, 0);
        holds("of none", x, 2);
        Due.row(x, 2, 16, 1, 2, 3, 4, 5);
        x.sheet(1, 16, 5);
        holds("another's stay", x, 2, 1, 2, 3, 4, 5);
    }

    private static void sheetMissing() {
        Edge.of(29, "0: it is missing, n doesn't matter): 1.");
        ImmunityCatching x = new ImmunityCatching();
        for (int n : new int[] {0, 5, 40, 41, -1, Due.MIN, Due.MAX}) {
            x.sheet(0, 8, 3);
            Due.due("0 bits, n " + n, x.sheet(0, 0, n), 1);
            Due.due("it is missing", x.put(0, 0, 0), Due.NONE);
        }
        Due.due("one that was missing", x.sheet(1, 0, 3), 1);
        Due.due("no SHEET 4 of 0 bits", x.sheet(4, 0, 0), Due.BEYOND);
        Due.due("no SHEET -1 of 0 bits", x.sheet(-1, 0, -1), Due.BEYOND);
    }

    private static void sheetBeyond() {
        Edge.of(29, "BEYOND.");
        ImmunityCatching x = new ImmunityCatching();
        x.sheet(0, 16, 2);
        for (int sheet : NO_SHEET) {
            Due.due("SHEET " + sheet, x.sheet(sheet, 8, 1), Due.BEYOND);
        }
        for (int bits : new int[] {-8, -1, 1, 7, 9, 15, 17, 24, 31, 33, 64, Due.MIN, Due.MAX}) {
            Due.due(bits + " bits", x.sheet(0, bits, 1), Due.BEYOND);
        }
        for (int n : new int[] {41, Due.MAX}) {
            Due.due("n " + n, x.sheet(0, 8, n), Due.BEYOND);
        }
        Due.due("it stays of 16 bits", x.move(0, 0, 0, 0, 2), 2);
        Due.due("with two numbers", x.put(0, 2, 0), Due.BEYOND);
        Due.due("n 40", x.sheet(0, 8, 40), 1);
        Due.due("n 0", x.sheet(0, 8, 0), 1);
    }

    private static void sheetState() {
        Edge.of(29, "STATE: n is below 0 (ahead of BEYOND of n).");
        ImmunityCatching x = new ImmunityCatching();
        x.sheet(0, 16, 2);
        for (int n : new int[] {-1, -40, Due.MIN}) {
            for (int bits = 8; bits <= 32; bits *= 2) {
                Due.due("n " + n + ", " + bits + " bits", x.sheet(0, bits, n), Due.STATE);
            }
            Due.due("one that is missing stays so", x.sheet(1, 8, n), Due.STATE);
        }
        Due.due("it stays", x.put(0, 1, 0), 1);
        Due.due("it is missing still", x.put(1, 0, 0), Due.NONE);
        Due.due("told", x.told(3), 12);
        Due.due("no BEYOND", x.told(1), 0);
    }

    private static int readBack(int bits, int v) {
        ImmunityCatching x = Due.with(0, 0);
        x.change(0, 1, 77);
        Due.row(x, 0, bits, v);
        return x.frees(0) == 0 ? -1 : x.ofSoul(0, 3);
    }

    private static void putLowestBits() {
        Edge.of(30, "Number i of a SHEET becomes v (its lowest bits): 1.");
        Due.due("99 of 8", readBack(8, 99), 99);
        Due.due("127 of 8", readBack(8, 127), -1);
        Due.due("128 of 8", readBack(8, 128), -1);
        Due.due("255 of 8", readBack(8, 255), -1);
        Due.due("256 of 8", readBack(8, 256), 0);
        Due.due("256 + 99 of 8", readBack(8, 355), 99);
        Due.due("-1 of 8", readBack(8, -1), -1);
        Due.due("-256 of 8", readBack(8, -256), 0);
        Due.due("-255 of 8", readBack(8, -255), 1);
        Due.due("the least of 8", readBack(8, Due.MIN), 0);
        Due.due("256 of 16", readBack(16, 256), -1);
        Due.due("32768 of 16", readBack(16, 32768), -1);
        Due.due("65535 of 16", readBack(16, 65535), -1);
        Due.due("65536 of 16", readBack(16, 65536), 0);
        Due.due("-65535 of 16", readBack(16, -65535), 1);
        Due.due("the least of 16", readBack(16, Due.MIN), 0);
        Due.due("65536 of 32", readBack(32, 65536), -1);
        Due.due("99 of 32", readBack(32, 99), 99);
        Due.due("the least of 32", readBack(32, Due.MIN), -1);
        Due.due("-1 of 32", readBack(32, -1), -1);
    }

    private static void putNoSheet() {
        Edge.of(30, "BEYOND: no such SHEET.");
        ImmunityCatching x = new ImmunityCatching();
        for (int sheet : NO_SHEET) {
            Due.due("SHEET " + sheet, x.put(sheet, 0, 0), Due.BEYOND);
        }
        x.sheet(3, 8, 1);
        Due.due("SHEET 3", x.put(3, 0, 0), 1);
    }

    private static void putMissing() {
        Edge.of(30, "NONE: it is missing.");
        ImmunityCatching x = new ImmunityCatching();
        for (int sheet = 0; sheet < 4; sheet++) {
            Due.due("at first", x.put(sheet, 0, 0), Due.NONE);
            Due.due("ahead of no such number", x.put(sheet, -1, 0), Due.NONE);
        }
        x.sheet(0, 8, 1);
        x.sheet(0, 0, 1);
        Due.due("again", x.put(0, 0, 0), Due.NONE);
    }

    private static void putNoNumber() {
        Edge.of(30, "BEYOND: no such number.");
        ImmunityCatching x = five();
        Due.row(x, 0, 8, 1, 2, 3, 4, 5);
        for (int i : new int[] {-1, 5, 39, 40, Due.MIN, Due.MAX}) {
            Due.due("number " + i, x.put(0, i, 9), Due.BEYOND);
        }
        holds("all stay", x, 0, 1, 2, 3, 4, 5);
        Due.due("the first", x.put(0, 0, 9), 1);
        Due.due("the last", x.put(0, 4, 8), 1);
        holds("these two", x, 0, 9, 2, 3, 4, 8);
        x.sheet(1, 8, 0);
        Due.due("of none", x.put(1, 0, 0), Due.BEYOND);
    }

    private static ImmunityCatching rowOfFive() {
        ImmunityCatching x = five();
        Due.row(x, 0, 16, 11, 12, 13, 14, 15);
        return x;
    }

    private static void moveAsTheyWere() {
        Edge.of(31, "n numbers of a SHEET, from number i on, come to another one (or the same), from its number j on, as "
            + "they all were: n.");
        ImmunityCatching x = rowOfFive();
        Due.due("upward, over one another", x.move(0, 0, 0, 1, 4), 4);
        holds("upward", x, 0, 11, 11, 12, 13, 14);
        x = rowOfFive();
        Due.due("downward, over one another", x.move(0, 1, 0, 0, 4), 4);
        holds("downward", x, 0, 12, 13, 14, 15, 15);
        x = rowOfFive();
        Due.due("all onto themselves", x.move(0, 0, 0, 0, 5), 5);
        holds("themselves", x, 0, 11, 12, 13, 14, 15);
        Due.row(x, 3, 16, 1, 2, 3);
        Due.due("to another's end", x.move(0, 3, 3, 1, 2), 2);
        holds("the other", x, 3, 1, 14, 15);
        holds("they stay where they were", x, 0, 11, 12, 13, 14, 15);
        Due.due("none", x.move(0, 0, 3, 0, 0), 0);
        Due.due("none, at both ends", x.move(0, 5, 3, 3, 0), 0);
        x.sheet(1, 32, 40);
        x.sheet(2, 32, 40);
        Due.due("all 40", x.move(1, 0, 2, 0, 40), 40);
        Due.due("the last alone", x.move(1, 39, 2, 39, 1), 1);
    }

    private static void moveNoSheet() {
        Edge.of(31, "BEYOND: no such SHEET.");
        ImmunityCatching x = rowOfFive();
        for (int sheet : NO_SHEET) {
            Due.due("SHEET " + sheet, x.move(sheet, 0, 0, 0, 1), Due.BEYOND);
            Due.due("other " + sheet, x.move(0, 0, sheet, 0, 1), Due.BEYOND);
            Due.due("ahead of a missing one", x.move(1, 0, sheet, 0, 1), Due.BEYOND);
            Due.due("ahead of a missing other", x.move(sheet, 0, 1, 0, 1), Due.BEYOND);
        }
    }

    private static void moveMissing() {
        Edge.of(31, "NONE: one is missing.");
        ImmunityCatching x = rowOfFive();
        Due.due("the one", x.move(1, 0, 0, 0, 1), Due.NONE);
        Due.due("the other", x.move(0, 0, 1, 0, 1), Due.NONE);
        Due.due("both", x.move(1, 0, 2, 0, 0), Due.NONE);
        Due.due("one and the same", x.move(3, 0, 3, 0, 0), Due.NONE);
        Due.due("ahead of BEYOND of n", x.move(1, 0, 0, 0, -1), Due.NONE);
        holds("it stays", x, 0, 11, 12, 13, 14, 15);
    }

    private static void moveUnlike() {
        Edge.of(31, "KIND: they are of unlike bits.");
        for (int one = 8; one <= 32; one *= 2) {
            for (int other = 8; other <= 32; other *= 2) {
                ImmunityCatching x = new ImmunityCatching();
                x.sheet(0, one, 2);
                x.sheet(1, other, 2);
                Due.due(one + " and " + other + " bits", x.move(0, 0, 1, 0, 2), one == other ? 2 : Due.KIND);
                Due.due("none of " + one + " and " + other, x.move(0, 0, 1, 0, 0), one == other ? 0 : Due.KIND);
                Due.due("ahead of BEYOND of n", x.move(0, 0, 1, 0, 3), one == other ? Due.BEYOND : Due.KIND);
            }
        }
    }

    private static void moveNotThere() {
        Edge.of(31, "BEYOND: n, i, or j is below 0, or they don't stand there.");
        ImmunityCatching x = rowOfFive();
        Due.row(x, 3, 16, 1, 2, 3);
        int[][] wrong = {{0, 0, -1}, {-1, 0, 1}, {0, -1, 1}, {-1, 0, 0}, {0, -1, 0}, {5, 0, 1}, {4, 0, 2}, {0, 3, 1},
            {0, 2, 2}, {0, 0, 4}, {0, 0, 6}, {6, 0, 0}, {0, 4, 0}, {Due.MAX, 0, 1}, {0, Due.MAX, 1}, {0, 0, Due.MAX},
            {1, 1, Due.MAX}, {Due.MAX, Due.MAX, Due.MAX}, {Due.MIN, 0, 1}, {0, Due.MIN, 1}, {0, 0, Due.MIN},
            {Due.MIN, Due.MIN, Due.MIN}, {2, 0, -2}, {Due.MAX, 0, Due.MIN}};
        for (int[] given : wrong) {
            Due.due("from " + given[0] + " to " + given[1] + ", " + given[2], x.move(0, given[0], 3, given[1], given[2]),
                Due.BEYOND);
        }
        Due.due("3 of 5 onto 3", x.move(3, 0, 0, 2, 3), 3);
        holds("these", x, 0, 11, 12, 1, 2, 3);
        Due.due("4 of 3", x.move(3, 0, 0, 0, 4), Due.BEYOND);
        holds("the other stays", x, 3, 1, 2, 3);
    }

    private static void freesUpTo() {
        Edge.of(32, "Numbers of a SHEET become FREE of PEOPLE 0, 1, ..: how many, up to the first that is not 0 to 99 "
            + "(no ERROR then)");
        for (int wrong = 0; wrong < 5; wrong++) {
            for (int v : new int[] {100, 127, -1, 255, Due.MIN, Due.MAX}) {
                ImmunityCatching x = five();
                Due.row(x, 0, 32, 99, 0, 98, 1, 97);
                x.put(0, wrong, v);
                Due.due("number " + wrong + " is " + v, x.frees(0), wrong);
                int[] want = {99, 0, 98, 1, 97};
                for (int i = 0; i < 5; i++) {
                    Due.due("FREE of " + i, x.ofSoul(i, 3), i < wrong ? want[i] : 0);
                }
                Due.due("no ERROR", x.told(1) + x.told(2), 0);
            }
        }
    }

    private static void freesOfNobody() {
        Edge.of(32, ", or for which there is nobody.");
        ImmunityCatching x = five();
        Due.row(x, 0, 8, 1, 2, 3, 4, 99, 6, 100);
        holds("seven numbers for five", x, 0, 1, 2, 3, 4, 99);
        Due.row(x, 0, 8, 7, 8);
        Due.due("two numbers for five", x.frees(0), 2);
        Due.due("FREE of 1", x.ofSoul(1, 3), 8);
        Due.due("FREE of 2 stays", x.ofSoul(2, 3), 3);
        x.sheet(0, 8, 0);
        Due.due("no number", x.frees(0), 0);
        x = new ImmunityCatching();
        x.sheet(0, 8, 40);
        Due.due("nobody", x.frees(0), 0);
        x.soul(0, 0);
        Due.due("one", x.frees(0), 1);
        x = Due.with(0, 0, 0, 0, 0, 0, 0, 0, 0, 0, 0, 0, 0, 0, 0, 0);
        x.sheet(3, 32, 40);
        x.put(3, 7, 44);
        Due.due("eight of 40", x.frees(3), 8);
        Due.due("FREE of the last", x.ofSoul(7, 3), 44);
    }

    private static void freesRefused() {
        Edge.of(32, "BEYOND: no such SHEET. NONE: it is missing.");
        ImmunityCatching x = five();
        for (int sheet : NO_SHEET) {
            Due.due("SHEET " + sheet, x.frees(sheet), Due.BEYOND);
        }
        for (int sheet = 0; sheet < 4; sheet++) {
            Due.due("SHEET " + sheet + " is missing", x.frees(sheet), Due.NONE);
        }
        Due.due("missing, with nobody", new ImmunityCatching().frees(0), Due.NONE);
    }

    private static void judges(ImmunityCatching x, String what, int want, int... numbers) {
        for (int bits = 8; bits <= 32; bits *= 2) {
            Due.row(x, 0, bits, numbers);
            Due.due(what, x.judge(0), want);
        }
    }

    private static void judgeFirst() {
        Edge.of(33, "Numbers of a SHEET are AT which STREETS PEOPLE 0, 1, .. are: the first that isn't so (one that lacks, "
            + "or is too many, too); -1: all are.");
        ImmunityCatching x = Due.with(0, 0, 0, 7, 0, 3);
        judges(x, "all are", -1, 0, 7, 3);
        judges(x, "the first isn't", 0, 1, 7, 3);
        judges(x, "the last isn't", 2, 0, 7, 4);
        judges(x, "two aren't", 1, 0, 6, 4);
        judges(x, "one lacks", 2, 0, 7);
        judges(x, "two lack", 1, 0);
        judges(x, "all lack", 0);
        judges(x, "one is too many", 3, 0, 7, 3, 0);
        judges(x, "two are too many", 3, 0, 7, 3, 0, 0);
        judges(x, "one isn't, and one is too many", 2, 0, 7, 2, 0);
        judges(x, "one isn't, and one lacks", 0, 5, 7);
        judges(x, "no STREET", 1, 0, -1, 3);
        judges(x, "no STREET either", 1, 0, 15, 3);
        x = new ImmunityCatching();
        judges(x, "nobody, no number", -1);
        judges(x, "nobody, one number", 0, 0);
        x = Due.with(0, 7, 0, 6, 0, 5, 0, 4, 0, 3, 0, 2, 0, 1, 0, 0);
        judges(x, "eight", -1, 7, 6, 5, 4, 3, 2, 1, 0);
        judges(x, "nine numbers", 8, 7, 6, 5, 4, 3, 2, 1, 0, 0);
        x.sheet(1, 8, 40);
        Due.due("40 numbers", x.judge(1), 0);
    }

    private static void judgeRefused() {
        Edge.of(33, "BEYOND: no such SHEET. NONE: it is missing.");
        ImmunityCatching x = new ImmunityCatching();
        for (int sheet : NO_SHEET) {
            Due.due("SHEET " + sheet, x.judge(sheet), Due.BEYOND);
        }
        for (int sheet = 0; sheet < 4; sheet++) {
            Due.due("SHEET " + sheet + " is missing", x.judge(sheet), Due.NONE);
        }
    }
}
