/** Edges of "Terms" 2, TEXTS, and of promises 10 to 12: feed, text, law. */
final class TextsEdges {
    private static final String[] NAMES = {"shn", "fms"};

    private TextsEdges() {
    }

    static void all() {
        mostBytes();
        grammar();
        digits();
        noBlanks();
        openAtOnce();
        wraps();
        byNought();
        truth();
        allIsWorkedOut();
        faultPlace();
        faultAtTheEnd();
        names();
        meetsHeld();
        deedsHeld();
        feedBytes();
        feedBeyond();
        feedFull();
        textInPlace();
        textBeyond();
        textFault();
        lawNames();
        lawBeyond();
    }

    private static void faultOf(int use, String text, int place) {
        ImmunityCatching x = new ImmunityCatching();
        Due.due("USE " + use + ", " + text, Due.text(x, use, text), -10 - place);
    }

    private static void fits(int use, String text) {
        ImmunityCatching x = new ImmunityCatching();
        Due.due("USE " + use + ", " + text, Due.text(x, use, text), 1);
    }

    /** Of USE 1, since it is held within 0 to 9 alone. */
    private static void gives(String text, int f, int m, int s, int want) {
        ImmunityCatching x = new ImmunityCatching();
        Due.due(text, Due.text(x, 1, text), 1);
        Due.due(text + " with " + f + ", " + m + ", " + s, x.law(1, f, m, s), want);
    }

    private static void mostBytes() {
        Edge.of(Edge.TERMS, "TEXTS are read from THE TAPE (bytes, at most 50)");
        ImmunityCatching x = new ImmunityCatching();
        Due.feed(x, "0+".repeat(24) + "07");
        Due.due("bytes", x.count(7), 50);
        Due.due("one more", x.feed('0', 1), Due.FULL);
        Due.due("a TEXT of 50", x.text(1), 1);
        Due.due("it is read to its end", x.law(1, 0, 0, 0), 7);
        fits(0, "(s)*(s)*(s)*(s)*(s)*(s)*(s)*(s)*(s)*(s)*(s)*(s)*12");
        gives("!!f+!!f+!!f+!!f+!!f+!!f+!!f+!!f+!!f+!!f+!!f+!!f+!f", 0, 0, 0, 1);
        gives("f-m-f-m-f-m-f-m-f-m-f-m-f-m-f-m-f-m-f-m-f-m-f-m-s", -1, 1, -9, 7);
    }

    private static void grammar() {
        Edge.of(Edge.TERMS, "T: A { | A }. A: B { & B }. B: S, or S < S, S = S, S > S. S: P { + P, - P }. "
            + "P: Q { * Q, / Q, % Q }. Q: a NUMBER of 1 to 4 digits, a NAME, ! Q, ( T ).");
        for (String sign : new String[] {"|", "&", "<", "=", ">", "+", "-", "*", "/", "%"}) {
            fits(0, "s" + sign + "h");
            faultOf(0, sign + "s", 0);
            faultOf(0, "s" + sign, 2);
            faultOf(0, "s" + sign + sign + "h", 2);
            faultOf(0, "(" + sign + "s)", 1);
            faultOf(0, "(s" + sign + ")", 3);
        }
        for (String sign : new String[] {"|", "&", "+", "-", "*", "/", "%"}) {
            fits(0, "s" + sign + "h" + sign + "n");
        }
        for (String sign : new String[] {"<", "=", ">"}) {
            for (String other : new String[] {"<", "=", ">"}) {
                faultOf(0, "s" + sign + "h" + other + "n", 3);
                fits(0, "s" + sign + "h&s" + other + "n");
                fits(0, "s" + sign + "h|s" + other + "n");
                fits(0, "(s" + sign + "h)" + other + "n");
                faultOf(0, "s" + sign + "h+n" + other + "n", 5);
            }
        }
        gives("1|1&0", 0, 0, 0, 1);
        gives("0&1|1", 0, 0, 0, 1);
        gives("5&3>2", 0, 0, 0, 1);
        gives("3<1+3", 0, 0, 0, 1);
        gives("1+2*3", 0, 0, 0, 7);
        gives("9-4-3", 0, 0, 0, 2);
        gives("9-4+3", 0, 0, 0, 8);
        gives("40/5/2", 0, 0, 0, 4);
        gives("7*4%5", 0, 0, 0, 3);
        gives("!0*5", 0, 0, 0, 5);
        gives("!1+5", 0, 0, 0, 5);
        gives("(1+2)*3", 0, 0, 0, 9);
    }

    private static void digits() {
        Edge.of(Edge.TERMS, "a NUMBER of 1 to 4 digits");
        fits(0, "0");
        fits(0, "9");
        fits(0, "9999");
        fits(0, "0000");
        faultOf(0, "10000", 4);
        faultOf(0, "00001", 4);
        faultOf(0, "s+12345", 6);
        faultOf(0, "/1", 0);
        faultOf(0, ":", 0);
        gives("9999-f", 9990, 0, 0, 9);
        gives("0009", 0, 0, 0, 9);
        gives("1000-f", 995, 0, 0, 5);
    }

    private static void noBlanks() {
        Edge.of(Edge.TERMS, "No blanks.");
        faultOf(0, " s", 0);
        faultOf(0, "s ", 1);
        faultOf(0, "s +h", 1);
        faultOf(0, "s+ h", 2);
        faultOf(0, "( s)", 1);
        faultOf(0, "1 2", 1);
        faultOf(0, "s\n", 1);
    }

    private static void openAtOnce() {
        Edge.of(Edge.TERMS, "At most 5 of ! and ( are open at once.");
        fits(0, "!!!!!s");
        faultOf(0, "!!!!!!s", 5);
        fits(0, "(((((s)))))");
        faultOf(0, "((((((s))))))", 5);
        fits(0, "!(!(!s))");
        faultOf(0, "!(!(!(s)))", 5);
        faultOf(0, "(!(!(!s)))", 5);
        fits(0, "!!!!!s+!!!!!h+(((((n)))))");
        fits(0, "((((!s+!h))))");
        faultOf(0, "((((!s+!!h))))", 8);
        fits(0, "!!!!(s)");
        fits(0, "!!!!(s+h)*!!!!!n");
        faultOf(0, "!!!!(s+!h)", 7);
        fits(0, "((((s)+(h))*(n)))");
        faultOf(0, "!!!!!!", 5);
        faultOf(0, "!!!!!", 5);
    }

    private static void wraps() {
        Edge.of(Edge.TERMS, "Ints that wrap");
        gives("f+1=m", Due.MAX, Due.MIN, 0, 1);
        gives("f-1=m", Due.MIN, Due.MAX, 0, 1);
        gives("f*2=m", 1 << 30, Due.MIN, 0, 1);
        gives("f*f", 1 << 16, 0, 0, 0);
        gives("f*f=1", Due.MAX, 0, 0, 1);
        gives("0-f=f", Due.MIN, 0, 0, 1);
        gives("f/m=f", Due.MIN, -1, 0, 1);
        gives("f%m+3", Due.MIN, -1, 0, 3);
        // 9999 three times is 999700029999, which leaves 3267617327 by 4294967296: 1027349969 less than that.
        gives("9999*9999*9999=0-f", 1027349969, 0, 0, 1);
        gives("f<f-1", Due.MIN, 0, 0, 1);
    }

    private static void byNought() {
        Edge.of(Edge.TERMS, "/ cut, % the rest that it leaves, both by 0 are 0");
        gives("f/2+9", -5, 0, 0, 7);
        gives("5/f+9", -2, 0, 0, 7);
        gives("f%3+9", -5, 0, 0, 7);
        gives("5%f", -3, 0, 0, 2);
        gives("5/0+4", 0, 0, 0, 4);
        gives("5%0+4", 0, 0, 0, 4);
        gives("f/m+4", Due.MIN, 0, 0, 4);
        gives("f%m+4", Due.MAX, 0, 0, 4);
        gives("0/0+4", 0, 0, 0, 4);
        gives("9/(f-f)/0%0+4", 5, 0, 0, 4);
    }

    private static void truth() {
        Edge.of(Edge.TERMS, "| & < = > ! are 1 or 0, what is not 0 being true");
        gives("7|8", 0, 0, 0, 1);
        gives("0|8", 0, 0, 0, 1);
        gives("8|0", 0, 0, 0, 1);
        gives("0|0", 0, 0, 0, 0);
        gives("f|0", -1, 0, 0, 1);
        gives("0|f", Due.MIN, 0, 0, 1);
        gives("2&4", 0, 0, 0, 1);
        gives("0&4", 0, 0, 0, 0);
        gives("4&0", 0, 0, 0, 0);
        gives("f&m", -1, Due.MIN, 0, 1);
        gives("f<m", Due.MIN, Due.MAX, 0, 1);
        gives("f<m", 3, 3, 0, 0);
        gives("f<m", 4, 3, 0, 0);
        gives("f=m", 3, 3, 0, 1);
        gives("f=m", 3, -3, 0, 0);
        gives("f>m", Due.MAX, Due.MIN, 0, 1);
        gives("f>m", 3, 3, 0, 0);
        gives("f>m", 3, 4, 0, 0);
        gives("!f", 0, 0, 0, 1);
        gives("!f", 7, 0, 0, 0);
        gives("!f", -1, 0, 0, 0);
        gives("!!f", 7, 0, 0, 1);
        for (String isNot : new String[] {"0|0", "2&0", "3<3", "2=3", "3>3", "!2"}) {
            gives("(" + isNot + ")+5", 0, 0, 0, 5);
        }
        for (String is : new String[] {"0|7", "2&7", "2<3", "3=3", "4>3", "!0"}) {
            gives("(" + is + ")+5", 0, 0, 0, 6);
        }
    }

    private static void allIsWorkedOut() {
        Edge.of(Edge.TERMS, "all is worked out");
        gives("1|5/0", 0, 0, 0, 1);
        gives("0&5%0", 0, 0, 0, 0);
    }

    private static void faultPlace() {
        Edge.of(Edge.TERMS, "FAULT: the place of the first byte with which no TEXT goes on");
        faultOf(0, "x", 0);
        faultOf(0, ")", 0);
        faultOf(0, "()", 1);
        faultOf(0, "s)", 1);
        faultOf(0, "(s))", 3);
        faultOf(0, "sh", 1);
        faultOf(0, "s1", 1);
        faultOf(0, "1s", 1);
        faultOf(0, "1(", 1);
        faultOf(0, "s!", 1);
        faultOf(0, "(s)s", 3);
        faultOf(0, "(s)(s)", 3);
        faultOf(0, "(s)!s", 3);
        faultOf(0, "s+x*", 2);
        faultOf(0, "!)", 1);
        faultOf(0, "!+s", 1);
        faultOf(0, "S", 0);
        faultOf(0, "\u0000", 0);
        faultOf(0, "s\u00ff", 1);
        faultOf(0, "s+\u0073\u00f3", 3);
        faultOf(0, "s" + "+s".repeat(24) + ")", 49);
        faultOf(0, "x".repeat(50), 0);
    }

    private static void faultAtTheEnd() {
        Edge.of(Edge.TERMS, "how many there are, if it ends too early.");
        faultOf(0, "", 0);
        faultOf(0, "!", 1);
        faultOf(0, "(", 1);
        faultOf(0, "(s", 2);
        faultOf(0, "((s)", 4);
        faultOf(0, "s&", 2);
        faultOf(0, "(s<1234", 7);
        faultOf(0, "s+".repeat(25), 50);
        faultOf(0, "(s" + "+s".repeat(24), 50);
    }

    private static void names() {
        Edge.of(Edge.TERMS, "0 MEETS, NAMES s the STREET, h the rest of STEP by 24, n how many are AT it");
        for (int use = 0; use < 2; use++) {
            for (char c = 'a'; c <= 'z'; c++) {
                if (NAMES[use].indexOf(c) >= 0) {
                    fits(use, "1+" + c);
                } else {
                    faultOf(use, "1+" + c, 2);
                }
            }
        }
    }

    private static void meetsHeld() {
        Edge.of(Edge.TERMS, "held within 0 to 1; without a TEXT 1.");
        ImmunityCatching x = new ImmunityCatching();
        Due.due("without a TEXT", x.law(0, 0, 0, 0), 1);
        Due.due("without a TEXT, with any NAMES", x.law(0, Due.MIN, Due.MAX, -1), 1);
        Due.text(x, 0, "s");
        int[][] pairs = {{Due.MIN, 0}, {-1, 0}, {0, 0}, {1, 1}, {2, 1}, {Due.MAX, 1}};
        for (int[] pair : pairs) {
            Due.due("of " + pair[0], x.law(0, pair[0], 0, 0), pair[1]);
        }
    }

    private static void deedsHeld() {
        Edge.of(Edge.TERMS, "held within 0 to 9; without a TEXT f>5.");
        ImmunityCatching x = new ImmunityCatching();
        int[][] first = {{Due.MIN, 0}, {0, 0}, {5, 0}, {6, 1}, {99, 1}, {Due.MAX, 1}};
        for (int[] pair : first) {
            Due.due("without a TEXT, of " + pair[0], x.law(1, pair[0], 9, 9), pair[1]);
        }
        Due.text(x, 1, "f");
        int[][] pairs = {{Due.MIN, 0}, {-1, 0}, {0, 0}, {1, 1}, {9, 9}, {10, 9}, {Due.MAX, 9}};
        for (int[] pair : pairs) {
            Due.due("of " + pair[0], x.law(1, pair[0], 0, 0), pair[1]);
        }
    }

    private static void feedBytes() {
        Edge.of(10, "The n lowest bytes (1 .. 8) of a word, the lowest first, come to THE TAPE: how many there are.");
        ImmunityCatching x = new ImmunityCatching();
        Due.due("1 byte, of others no more", x.feed(0xFFFFFFFFFFFFFF66L, 1), 1);
        Due.due("f", x.text(1), 1);
        Due.due("8 bytes, the highest above 127", x.feed(0x80_31_2B_31_2B_31_2B_31L, 8), 8);
        Due.due("the last of 8 is no byte of a TEXT", x.text(1), -17);
        for (int n = 1; n <= 8; n++) {
            Due.due(n + " bytes", x.feed(0x3132_3334_3536_3738L, n), n);
            Due.due("8, 87, 876, 8765 and no more", x.text(1), n <= 4 ? 1 : -14);
            Due.due("the lowest is the first", x.law(1, 0, 0, 0), n == 1 ? 8 : 9);
        }
        Due.due("those of one word", x.feed(0x2D39L, 2), 2);
        Due.due("ahead of those of the next", x.feed(0x322D33L, 3), 5);
        Due.due("9-3-2", x.text(1), 1);
        Due.due("is 4", x.law(1, 0, 0, 0), 4);
    }

    private static void feedBeyond() {
        Edge.of(10, "BEYOND.");
        ImmunityCatching x = new ImmunityCatching();
        for (int n : new int[] {0, -1, 9, Due.MIN, Due.MAX}) {
            Due.due("n " + n, x.feed(0x31, n), Due.BEYOND);
        }
        Due.due("bytes", x.count(7), 0);
    }

    private static void feedFull() {
        Edge.of(10, "FULL.");
        ImmunityCatching x = new ImmunityCatching();
        Due.feed(x, "7+".repeat(21));
        Due.due("42 and 8 are 50", x.feed(0x31_2B_31_2B_31_2B_31_2BL, 8), 50);
        Due.due("1 more", x.feed(0x31, 1), Due.FULL);
        Due.due("50", x.count(7), 50);
        x.text(0);
        Due.feed(x, "0+".repeat(21) + "9");
        Due.due("43 and 8 are too many", x.feed(0x31_2D_31_2D_31_2D_31_2DL, 8), Due.FULL);
        Due.due("none of them came", x.count(7), 43);
        Due.due("43 and 7 are 50", x.feed(0x00_20_31_2D_31_2D_31_2DL, 7), 50);
        Due.due("a blank is the last", x.text(1), -59);
        Due.due("told", x.told(4), 2);
    }

    private static void textInPlace() {
        Edge.of(11, "THE TAPE, which is empty then, is the TEXT of a USE (0, 1), in place of one ahead: 1.");
        ImmunityCatching x = new ImmunityCatching();
        Due.due("a long one", Due.text(x, 1, "f+m+s+f+m+s"), 1);
        Due.due("THE TAPE is empty", x.count(7), 0);
        Due.due("2 * (1 + 1 + 1)", x.law(1, 1, 1, 1), 6);
        Due.due("a short one", Due.text(x, 1, "f"), 1);
        Due.due("THE TAPE is empty", x.count(7), 0);
        Due.due("1", x.law(1, 1, 1, 1), 1);
        Due.due("the other USE has none", x.law(0, 0, 0, 0), 1);
        Due.due("the other USE", Due.text(x, 0, "0"), 1);
        Due.due("0", x.law(0, 1, 1, 1), 0);
        Due.due("this one has its own still", x.law(1, 3, 1, 1), 3);
        Due.due("an empty TAPE again", x.text(1), -10);
    }

    private static void textBeyond() {
        Edge.of(11, "BEYOND (THE TAPE stays).");
        ImmunityCatching x = new ImmunityCatching();
        Due.feed(x, "7");
        for (int use : new int[] {-1, 2, Due.MIN, Due.MAX}) {
            Due.due("USE " + use, x.text(use), Due.BEYOND);
            Due.due("THE TAPE stays", x.count(7), 1);
        }
        Due.due("as it was", x.text(1), 1);
        Due.due("7", x.law(1, 0, 0, 0), 7);
    }

    private static void textFault() {
        Edge.of(11, "-10 less the FAULT (no ERROR; the one ahead stays).");
        ImmunityCatching x = new ImmunityCatching();
        Due.due("an empty TAPE", x.text(0), -10);
        Due.due("without a TEXT still", x.law(0, 0, 0, 0), 1);
        Due.due("a TEXT", Due.text(x, 1, "f+m"), 1);
        Due.due("a FAULT at 3", Due.text(x, 1, "m*2("), -13);
        Due.due("THE TAPE is empty", x.count(7), 0);
        Due.due("the one ahead stays", x.law(1, 3, 4, 0), 7);
        Due.due("a FAULT at 50", Due.text(x, 1, "1+".repeat(25)), -60);
        Due.due("the one ahead stays", x.law(1, 3, 4, 0), 7);
        Due.due("names of the other USE", Due.text(x, 0, "f"), -10);
        for (int k = 1; k <= 5; k++) {
            Due.due("no ERROR", x.told(k), 0);
        }
    }

    private static void lawNames() {
        Edge.of(12, "What a USE gives with its NAMES in order as a, b, c.");
        for (int use = 0; use < 2; use++) {
            for (int name = 0; name < 3; name++) {
                ImmunityCatching x = new ImmunityCatching();
                Due.text(x, use, NAMES[use].substring(name, name + 1));
                for (int which = 0; which < 3; which++) {
                    int[] given = {0, 0, 0};
                    given[which] = 1;
                    Due.due("USE " + use + ", NAME " + name + ", number " + which,
                        x.law(use, given[0], given[1], given[2]), which == name ? 1 : 0);
                }
            }
        }
    }

    private static void lawBeyond() {
        Edge.of(12, "BEYOND.");
        ImmunityCatching x = new ImmunityCatching();
        for (int use : new int[] {-1, 2, Due.MIN, Due.MAX}) {
            Due.due("USE " + use, x.law(use, 0, 0, 0), Due.BEYOND);
        }
        Due.due("USE 0", x.law(0, 0, 0, 0), 1);
        Due.due("USE 1", x.law(1, 0, 0, 0), 0);
        Due.due("told", x.told(1), 4);
    }
}
