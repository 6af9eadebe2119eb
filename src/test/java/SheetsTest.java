/** Promises 29 to 33: sheet, put, move, frees, judge. */
public final class SheetsTest {
    public static void main(String[] args) {
        sheet();
        put();
        move();
        moveWrong();
        frees();
        judge();
        eight();
        Due.end();
    }

    private static void sheet() {
        ImmunityCatching x = new ImmunityCatching();
        for (int bits : new int[] {8, 16, 32}) {
            Due.due("40 of " + bits, x.sheet(0, bits, 40), 1);
            Due.due("the last", x.put(0, 39, 0), 1);
            Due.due("one more", x.put(0, 40, 0), Due.BEYOND);
        }
        Due.due("none", x.sheet(0, 8, 0), 1);
        Due.due("none such", x.put(0, 0, 0), Due.BEYOND);
        Due.due("41", x.sheet(0, 8, 41), Due.BEYOND);
        Due.due("-1", x.sheet(0, 8, -1), Due.STATE);
        Due.due("least", x.sheet(0, 32, Due.MIN), Due.STATE);
        Due.due("most", x.sheet(0, 32, Due.MAX), Due.BEYOND);
        Due.due("SHEET 4", x.sheet(4, 8, -1), Due.BEYOND);
        Due.due("SHEET -1", x.sheet(-1, 8, 1), Due.BEYOND);
        Due.due("7 bits", x.sheet(0, 7, -1), Due.BEYOND);
        Due.due("64 bits", x.sheet(0, 64, 1), Due.BEYOND);
        Due.due("-8 bits", x.sheet(0, -8, 1), Due.BEYOND);
        Due.due("SHEET 4, missing", x.sheet(4, 0, 1), Due.BEYOND);
        Due.due("it stays", x.put(0, 0, 0), Due.BEYOND);
        Due.due("missing, n below 0", x.sheet(0, 0, -1), 1);
        Due.due("it is missing", x.put(0, 0, 0), Due.NONE);
        Due.due("missing, n above", x.sheet(0, 0, 41), 1);
        x.soul(0, 0);
        x.sheet(1, 8, 1);
        x.put(1, 0, 9);
        x.sheet(1, 8, 1);
        Due.due("all are 0", x.judge(1), -1);
    }

    /** Whether number 0 of a SHEET, as it was put, is what FREE can be, and is FREE then. */
    private static void putAndRead(int bits, int v, int want) {
        ImmunityCatching x = new ImmunityCatching();
        x.soul(0, 0);
        x.change(0, 1, 55);
        x.sheet(2, bits, 1);
        Due.due("put", x.put(2, 0, v), 1);
        Due.due("frees of " + v + " with " + bits + " bits", x.frees(2), want < 0 ? 0 : 1);
        Due.due("FREE", x.ofSoul(0, 3), want < 0 ? 55 : want);
    }

    private static void put() {
        putAndRead(8, 7, 7);
        putAndRead(8, 256 + 7, 7);
        putAndRead(8, 255, -1);
        putAndRead(8, -1, -1);
        putAndRead(8, -256, 0);
        putAndRead(16, 256 + 7, -1);
        putAndRead(16, 65536 + 7, 7);
        putAndRead(16, -65536, 0);
        putAndRead(16, 65535, -1);
        putAndRead(32, 65536 + 7, -1);
        putAndRead(32, 7, 7);
        putAndRead(32, Due.MIN, -1);
        ImmunityCatching x = new ImmunityCatching();
        Due.due("SHEET 4", x.put(4, 0, 0), Due.BEYOND);
        Due.due("SHEET -1", x.put(-1, 0, 0), Due.BEYOND);
        Due.due("missing, ahead of BEYOND", x.put(3, -1, 0), Due.NONE);
        x.sheet(3, 8, 2);
        Due.due("number 2", x.put(3, 2, 0), Due.BEYOND);
        Due.due("number -1", x.put(3, -1, 0), Due.BEYOND);
        Due.due("number most", x.put(3, Due.MAX, 0), Due.BEYOND);
    }

    private static void row(ImmunityCatching x, int sheet, int... numbers) {
        Due.row(x, sheet, 16, numbers);
    }

    private static void is(ImmunityCatching x, int sheet, int... numbers) {
        Due.due("frees", x.frees(sheet), numbers.length);
        for (int i = 0; i < numbers.length; i++) {
            Due.due("number " + i, x.ofSoul(i, 3), numbers[i]);
        }
    }

    private static ImmunityCatching five() {
        ImmunityCatching x = new ImmunityCatching();
        for (int i = 0; i < 5; i++) {
            x.soul(0, i);
        }
        row(x, 0, 11, 12, 13, 14, 15);
        return x;
    }

    private static void move() {
        ImmunityCatching x = five();
        Due.due("upward", x.move(0, 0, 0, 1, 4), 4);
        is(x, 0, 11, 11, 12, 13, 14);
        x = five();
        Due.due("downward", x.move(0, 1, 0, 0, 4), 4);
        is(x, 0, 12, 13, 14, 15, 15);
        x = five();
        row(x, 1, 1, 2, 3);
        Due.due("to another", x.move(1, 1, 0, 3, 2), 2);
        is(x, 0, 11, 12, 13, 2, 3);
        is(x, 1, 1, 2, 3);
        Due.due("all", x.move(0, 0, 0, 0, 5), 5);
        is(x, 0, 11, 12, 13, 2, 3);
        Due.due("none, at the end", x.move(0, 5, 1, 3, 0), 0);
    }

    private static void moveWrong() {
        ImmunityCatching x = five();
        row(x, 1, 1, 2, 3);
        Due.due("SHEET 4", x.move(4, 0, 2, 0, 1), Due.BEYOND);
        Due.due("other 4", x.move(2, 0, 4, 0, 1), Due.BEYOND);
        Due.due("other -1", x.move(0, 0, -1, 0, 1), Due.BEYOND);
        Due.due("one is missing", x.move(2, -1, 0, 0, 1), Due.NONE);
        Due.due("the other is missing", x.move(0, -1, 2, 0, 1), Due.NONE);
        x.sheet(2, 8, 5);
        Due.due("unlike bits", x.move(0, -1, 2, 0, 1), Due.KIND);
        Due.due("unlike bits", x.move(2, 0, 0, 0, 0), Due.KIND);
        Due.due("n below 0", x.move(0, 0, 1, 0, -1), Due.BEYOND);
        Due.due("i below 0", x.move(0, -1, 1, 0, 1), Due.BEYOND);
        Due.due("j below 0", x.move(0, 0, 1, -1, 1), Due.BEYOND);
        Due.due("i too far", x.move(0, 4, 1, 0, 2), Due.BEYOND);
        Due.due("j too far", x.move(0, 0, 1, 2, 2), Due.BEYOND);
        Due.due("n too many", x.move(0, 0, 1, 0, 4), Due.BEYOND);
        Due.due("none, past the end", x.move(0, 6, 1, 0, 0), Due.BEYOND);
        Due.due("none, past the other's end", x.move(0, 0, 1, 4, 0), Due.BEYOND);
        Due.due("most", x.move(0, Due.MAX, 1, Due.MAX, Due.MAX), Due.BEYOND);
        Due.due("most", x.move(0, Due.MAX, 1, 0, 1), Due.BEYOND);
        is(x, 0, 11, 12, 13, 14, 15);
        is(x, 1, 1, 2, 3);
    }

    private static void frees() {
        ImmunityCatching x = five();
        row(x, 1, 99, 0, 100, 5);
        Due.due("up to 100", x.frees(1), 2);
        int[] want = {99, 0, 0, 0, 0};
        for (int i = 0; i < 5; i++) {
            Due.due("FREE of " + i, x.ofSoul(i, 3), want[i]);
        }
        Due.due("that is no ERROR", x.told(1) + x.told(2) + x.told(3) + x.told(4) + x.told(5), 0);
        row(x, 1, 1, 2, 3, 4, 5, 6, 7);
        Due.due("up to the last of PEOPLE", x.frees(1), 5);
        Due.due("FREE of all", x.count(3), 15);
        row(x, 1, 9);
        Due.due("one", x.frees(1), 1);
        Due.due("FREE of all", x.count(3), 23);
        row(x, 1);
        Due.due("none", x.frees(1), 0);
        Due.due("SHEET 4", x.frees(4), Due.BEYOND);
        Due.due("SHEET -1", x.frees(-1), Due.BEYOND);
        Due.due("missing", x.frees(3), Due.NONE);
    }

    private static void eight() {
        ImmunityCatching x = five();
        for (int i = 5; i < 8; i++) {
            x.soul(0, i);
        }
        int[] numbers = new int[40];
        for (int i = 0; i < 40; i++) {
            numbers[i] = i;
        }
        row(x, 1, numbers);
        Due.due("a row of 40 for eight", x.frees(1), 8);
        Due.due("FREE of the last", x.ofSoul(7, 3), 7);
        Due.due("too many", x.judge(1), 8);
    }

    private static void judge() {
        ImmunityCatching x = five();
        row(x, 1, 0, 1, 2, 3, 4);
        Due.due("all are", x.judge(1), -1);
        x.change(2, 0, 7);
        Due.due("2 isn't", x.judge(1), 2);
        x.put(1, 2, 7);
        Due.due("all are", x.judge(1), -1);
        row(x, 1, 0, 1, 7, 3);
        Due.due("one lacks", x.judge(1), 4);
        row(x, 1, 0, 1, 7, 3, 4, 0);
        Due.due("one is too many", x.judge(1), 5);
        row(x, 1, 0, 9);
        Due.due("1 isn't", x.judge(1), 1);
        row(x, 1, 1, 1, 7, 3, 4);
        Due.due("0 isn't", x.judge(1), 0);
        row(x, 1);
        Due.due("all lack", x.judge(1), 0);
        Due.due("SHEET 4", x.judge(4), Due.BEYOND);
        Due.due("SHEET -1", x.judge(-1), Due.BEYOND);
        Due.due("missing", x.judge(3), Due.NONE);
        x = new ImmunityCatching();
        row(x, 0);
        Due.due("nobody, none", x.judge(0), -1);
        row(x, 0, 0);
        Due.due("nobody, one", x.judge(0), 0);
    }
}
