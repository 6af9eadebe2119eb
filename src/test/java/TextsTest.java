/** Promises 10 to 12: feed, text, law. */
public final class TextsTest {
    public static void main(String[] args) {
        feed();
        faults();
        textStays();
        values();
        held();
        law();
        Due.end();
    }

    private static void feed() {
        ImmunityCatching x = new ImmunityCatching();
        Due.due("feed of 0", x.feed(0, 0), Due.BEYOND);
        Due.due("feed of 9", x.feed(0, 9), Due.BEYOND);
        Due.due("feed of -1", x.feed(0, -1), Due.BEYOND);
        for (int i = 1; i <= 6; i++) {
            Due.due("feed of 8", x.feed(-1L, 8), 8 * i);
        }
        Due.due("feed of 3 more", x.feed(0, 3), Due.FULL);
        Due.due("BEYOND ahead of FULL", x.feed(0, 9), Due.BEYOND);
        Due.due("feed of 2 more", x.feed(0, 2), 50);
        Due.due("feed of 1 more", x.feed(0, 1), Due.FULL);
        Due.due("TAPE", x.count(7), 50);
        Due.due("bytes above 127 are no TEXT", x.text(0), -10);
        Due.due("TAPE is empty", x.count(7), 0);
        Due.due("the lowest comes first", x.feed(0x7FFFFFFFFFFF3231L, 2), 2);
        Due.due("then those of the next word", x.feed(0x33L, 1), 3);
        Due.due("TEXT 123", x.text(1), 1);
        Due.due("held", x.law(1, 0, 0, 0), 9);
        Due.due("all 8 bytes", x.feed(0x352B342B332B322BL, 8), 8);
        Due.due("a TEXT that begins with +", x.text(1), -10);
        Due.due("all 8 bytes", x.feed(0x2D312D312D312D39L, 8), 8);
        Due.due("1", x.feed(0x31, 1), 9);
        Due.due("TEXT 9-1-1-1-1", x.text(1), 1);
        Due.due("is 5", x.law(1, 0, 0, 0), 5);
    }

    private static void fault(int use, String text, int fault) {
        ImmunityCatching x = new ImmunityCatching();
        Due.due("USE " + use + ", TEXT " + text, Due.text(x, use, text), fault < 0 ? 1 : -10 - fault);
        Due.due("TAPE is empty", x.count(7), 0);
        Due.due("a FAULT is no ERROR", x.told(1) + x.told(2) + x.told(3) + x.told(4) + x.told(5), 0);
    }

    private static void faults() {
        fault(0, "", 0);
        fault(0, "s", -1);
        fault(0, "h", -1);
        fault(0, "n", -1);
        fault(0, "f", 0);
        fault(0, "m", 0);
        fault(1, "f", -1);
        fault(1, "m", -1);
        fault(1, "s", -1);
        fault(1, "h", 0);
        fault(1, "n", 0);
        fault(0, "1234", -1);
        fault(0, "12345", 4);
        fault(0, "0000", -1);
        fault(0, "00000", 4);
        fault(0, "s s", 1);
        fault(0, " s", 0);
        fault(0, "s1", 1);
        fault(0, "1s", 1);
        fault(0, "ss", 1);
        fault(0, "s+", 2);
        fault(0, "+s", 0);
        fault(0, "-1", 0);
        fault(0, "s+-1", 2);
        fault(0, "s<s<s", 3);
        fault(0, "s<s=s", 3);
        fault(0, "s>s&s<s|s=s", -1);
        fault(0, "(s<s)<s", -1);
        fault(0, "s<(s<s)", -1);
        fault(0, "(s<s<s)", 4);
        fault(0, "s&&s", 2);
        fault(0, "s||s", 2);
        fault(0, "s==s", 2);
        fault(0, "s!", 1);
        fault(0, "!s", -1);
        fault(0, "!", 1);
        fault(0, "(", 1);
        fault(0, "()", 1);
        fault(0, "(s", 2);
        fault(0, "s)", 1);
        fault(0, "(s))", 3);
        fault(0, "(s)(s)", 3);
        fault(0, "(s)1", 3);
        fault(0, "!!!!!s", -1);
        fault(0, "!!!!!!s", 5);
        fault(0, "(((((s)))))", -1);
        fault(0, "((((((s))))))", 5);
        fault(0, "!(!(!s))", -1);
        fault(0, "!(!(!(s)))", 5);
        fault(0, "!(!(!!s))", 5);
        fault(0, "!!!!!s+!!!!!s", -1);
        fault(0, "(!!!!s)+(!!!!!s)", 13);
        fault(0, "!!!!(s+!s)", 7);
        fault(0, "s\u00e9", 1);
        fault(0, "s\u0000", 1);
        fault(0, "1+".repeat(24) + "11", -1);
        fault(0, "1+".repeat(25), 50);
        fault(0, "1+".repeat(24) + "1&", 50);
        fault(0, "1+".repeat(24) + "1)", 49);
    }

    private static void textStays() {
        ImmunityCatching x = new ImmunityCatching();
        Due.due("TEXT", Due.text(x, 1, "3"), 1);
        Due.due("a FAULT", Due.text(x, 1, "4+"), -12);
        Due.due("the one ahead stays", x.law(1, 0, 0, 0), 3);
        Due.due("the other USE has none", x.law(0, 0, 0, 0), 1);
        Due.feed(x, "4");
        Due.due("text(2)", x.text(2), Due.BEYOND);
        Due.due("text(-1)", x.text(-1), Due.BEYOND);
        Due.due("TAPE stays", x.count(7), 1);
        Due.due("text(1)", x.text(1), 1);
        Due.due("in place of one ahead", x.law(1, 0, 0, 0), 4);
        Due.due("a shorter one", Due.text(x, 1, "m*2+f"), 1);
        Due.due("a shorter one", Due.text(x, 1, "m"), 1);
        Due.due("a shorter one", x.law(1, 7, 2, 9), 2);
    }

    /** The value must be 0 to 9: all else is held. */
    private static void value(String text, int a, int b, int c, int want) {
        ImmunityCatching x = new ImmunityCatching();
        Due.due("TEXT " + text, Due.text(x, 1, text), 1);
        Due.due(text + " with " + a + ", " + b + ", " + c, x.law(1, a, b, c), want);
    }

    private static void values() {
        value("f", 1, 2, 3, 1);
        value("m", 1, 2, 3, 2);
        value("s", 1, 2, 3, 3);
        value("1+2*3", 0, 0, 0, 7);
        value("(1+2)*3", 0, 0, 0, 9);
        value("9-3-2", 0, 0, 0, 4);
        value("9-(3-2)", 0, 0, 0, 8);
        value("24/4/2", 0, 0, 0, 3);
        value("24/(4/2)-4", 0, 0, 0, 8);
        value("17%10%4", 0, 0, 0, 3);
        value("20%7*2-5", 0, 0, 0, 7);
        value("5*7%8", 0, 0, 0, 3);
        value("f/2+5", -3, 0, 0, 4);
        value("f%4+5", -7, 0, 0, 2);
        value("f%m+5", 7, -4, 0, 8);
        value("f/0+3", 7, 0, 0, 3);
        value("f%0+3", 7, 0, 0, 3);
        value("f/m=f", Due.MIN, -1, 0, 1);
        value("f%m+4", Due.MIN, -1, 0, 4);
        value("f+1<0", Due.MAX, 0, 0, 1);
        value("f-1>0", Due.MIN, 0, 0, 1);
        value("f*f", 65536, 0, 0, 0);
        value("9999*9999*9999=f", (int) (9999L * 9999L * 9999L), 0, 0, 1);
        value("2|0", 0, 0, 0, 1);
        value("0|0", 0, 0, 0, 0);
        value("2&4", 0, 0, 0, 1);
        value("2&0", 0, 0, 0, 0);
        value("f|0", -1, 0, 0, 1);
        value("f&1", -1, 0, 0, 1);
        value("1|0&0", 0, 0, 0, 1);
        value("(1|0)&0", 0, 0, 0, 0);
        value("2<3", 0, 0, 0, 1);
        value("3<3", 0, 0, 0, 0);
        value("3=3", 0, 0, 0, 1);
        value("2=3", 0, 0, 0, 0);
        value("4>3", 0, 0, 0, 1);
        value("3>3", 0, 0, 0, 0);
        value("1+1<1+2", 0, 0, 0, 1);
        value("1&2>1", 0, 0, 0, 1);
        value("(2>1)+(1<2)", 0, 0, 0, 2);
        value("!0+2", 0, 0, 0, 3);
        value("!5+2", 0, 0, 0, 2);
        value("!!5+2", 0, 0, 0, 3);
        value("!f*3", -1, 0, 0, 0);
        value("!(1=2)*7", 0, 0, 0, 7);
        value("0007", 0, 0, 0, 7);
        value("s-m*f", 2, 3, 14, 8);
        value("!f" + "-0".repeat(23) + "+7", 0, 0, 0, 8);
        value("!f" + "-0".repeat(23) + "+7", 1, 0, 0, 7);
        value("1" + "|0".repeat(24), 0, 0, 0, 1);
        value("1" + "&1".repeat(24), 0, 0, 0, 1);
        value("3" + "*1".repeat(24), 0, 0, 0, 3);
    }

    private static void held() {
        ImmunityCatching x = new ImmunityCatching();
        Due.due("TEXT", Due.text(x, 0, "s-h+n"), 1);
        Due.due("0", x.law(0, 3, 4, 1), 0);
        Due.due("1", x.law(0, 3, 4, 2), 1);
        Due.due("2 is held at 1", x.law(0, 3, 4, 3), 1);
        Due.due("-1 is held at 0", x.law(0, 3, 4, 0), 0);
        Due.due("TEXT", Due.text(x, 1, "f-m+s"), 1);
        Due.due("9", x.law(1, 10, 4, 3), 9);
        Due.due("10 is held at 9", x.law(1, 10, 4, 4), 9);
        Due.due("-1 is held at 0", x.law(1, 1, 4, 2), 0);
        Due.due("most is held at 9", x.law(1, Due.MAX, 0, 0), 9);
        Due.due("least is held at 0", x.law(1, Due.MIN, 0, 0), 0);
    }

    private static void law() {
        ImmunityCatching x = new ImmunityCatching();
        Due.due("MEETS without a TEXT", x.law(0, -5, 100, 0), 1);
        Due.due("DEEDS without a TEXT", x.law(1, 5, 9, 9), 0);
        Due.due("DEEDS without a TEXT", x.law(1, 6, 0, 0), 1);
        Due.due("law(2, ..)", x.law(2, 0, 0, 0), Due.BEYOND);
        Due.due("law(-1, ..)", x.law(-1, 0, 0, 0), Due.BEYOND);
        Due.due("told", x.told(1), 2);
    }
}
