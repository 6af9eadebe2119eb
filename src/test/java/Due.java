import java.nio.charset.StandardCharsets;

/** What the tests share: counting answers that are not as due, objects with PEOPLE, and feeding a TEXT to THE TAPE. */
final class Due {
    static final int LOW = -1000000000;
    static final int BEYOND = LOW - 1;
    static final int NONE = LOW - 2;
    static final int STATE = LOW - 3;
    static final int FULL = LOW - 4;
    static final int KIND = LOW - 5;
    static final int MAX = Integer.MAX_VALUE;
    static final int MIN = Integer.MIN_VALUE;

    private static int asked = 0;
    private static int wrong = 0;
    private static String about = "";

    private Due() {
    }

    /** What all answers are about from here on: it is told ahead of those that are not as due. */
    static void about(String what) {
        about = what;
    }

    static int asked() {
        return asked;
    }

    static void due(String what, long got, long want) {
        asked++;
        if (got != want) {
            wrong++;
            System.out.println(about + what + " answered " + got + ", due is " + want);
        }
    }

    static void due(String what, boolean is) {
        due(what, is ? 1 : 0, 1);
    }

    /** A new object with PEOPLE: km and STREET of each. */
    static ImmunityCatching with(int... kmAndStreet) {
        ImmunityCatching x = new ImmunityCatching();
        for (int i = 0; i < kmAndStreet.length; i += 2) {
            x.soul(kmAndStreet[i], kmAndStreet[i + 1]);
        }
        return x;
    }

    /** STEP is 9999 then, as far as it goes. It takes 167 calls. */
    static void goToLastStep(ImmunityCatching x) {
        for (int i = 0; i < 166; i++) {
            x.steps(60);
        }
        x.steps(39);
    }

    static void row(ImmunityCatching x, int sheet, int bits, int... numbers) {
        x.sheet(sheet, bits, numbers.length);
        for (int i = 0; i < numbers.length; i++) {
            x.put(sheet, i, numbers[i]);
        }
    }

    static void feed(ImmunityCatching x, String text) {
        byte[] bytes = text.getBytes(StandardCharsets.ISO_8859_1);
        for (int i = 0; i < bytes.length; i += 8) {
            int n = Math.min(8, bytes.length - i);
            long word = 0;
            for (int j = n - 1; j >= 0; j--) {
                word = word << 8 | (bytes[i + j] & 255);
            }
            due("feed of " + text, x.feed(word, n), i + n);
        }
    }

    static int text(ImmunityCatching x, int use, String text) {
        feed(x, text);
        return x.text(use);
    }

    static void end() {
        System.out.println(asked + " asked, " + wrong + " not as due");
        if (wrong != 0) {
            System.exit(1);
        }
    }
}
