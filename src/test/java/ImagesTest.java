/** Promises 34 to 39: image, restore, tell, check, count, told. */
public final class ImagesTest {
    public static void main(String[] args) {
        image();
        notInTheImage();
        imageOfNobody();
        tell();
        check();
        count();
        told();
        Due.end();
    }

    private static ImmunityCatching some() {
        ImmunityCatching x = new ImmunityCatching();
        x.soul(13, 1);
        x.soul(34, 1);
        x.change(0, 3, 40);
        x.loss(3);
        x.steps(5);
        x.change(1, 2, 1);
        Due.text(x, 0, "n<9");
        Due.text(x, 1, "f/9");
        Due.feed(x, "abc");
        x.tell(4);
        x.tell(5);
        x.seed(99);
        return x;
    }

    private static void upset(ImmunityCatching x) {
        x.feed(0x2B2B, 2);
        Due.due("a FAULT", x.text(0), -10);
        Due.due("TEXT", Due.text(x, 0, "0"), 1);
        Due.due("TEXT", Due.text(x, 1, "7*s"), 1);
        Due.feed(x, "wxyz");
        x.check();
        x.tell(1);
        x.loose(9);
        x.become(0, 61);
        x.become(1, 5);
        x.change(1, 2, 0);
        x.change(0, 2, 1);
        x.change(0, 0, 6);
        x.change(0, 3, 1);
        x.loss(8);
        x.soul(22, 3);
        x.steps(2);
    }

    private static void alike(ImmunityCatching x, ImmunityCatching y) {
        for (int what = 0; what <= 10; what++) {
            if (what != 9) {
                Due.due("count(" + what + ")", x.count(what), y.count(what));
            }
        }
        for (int who = 0; who < 3; who++) {
            for (int what = 0; what <= 8; what++) {
                Due.due("ofSoul(" + who + ", " + what + ")", x.ofSoul(who, what), y.ofSoul(who, what));
            }
        }
        for (int v = 0; v < 60; v += 7) {
            Due.due("law(0, ..)", x.law(0, 1, v, v), y.law(0, 1, v, v));
            Due.due("law(1, ..)", x.law(1, v, 1, v), y.law(1, v, 1, v));
        }
        Due.due("what is on THE TAPE", x.text(0), y.text(0));
        Due.due("what waits", x.check(), y.check());
        Due.due("steps", x.steps(9), y.steps(9));
        Due.due("loose", x.loose(9), y.loose(9));
    }

    private static void image() {
        ImmunityCatching x = some();
        Due.due("none ahead", x.restore(), Due.NONE);
        Due.due("once", x.image(), 1);
        upset(x);
        Due.due("STEP", x.restore(), 5);
        alike(x, some());
        upset(x);
        Due.due("it stays", x.restore(), 5);
        alike(x, some());
        x.restore();
        x.steps(2);
        Due.due("twice", x.image(), 2);
        upset(x);
        Due.due("in place of one ahead", x.restore(), 7);
        ImmunityCatching y = some();
        y.steps(2);
        alike(x, y);
        x = some();
        x.image();
        x.text(0);
        Due.due("TEXT", Due.text(x, 0, "s=5"), 1);
        Due.due("s=5", x.law(0, 1, 0, 0), 0);
        x.restore();
        Due.due("the TEXT ahead", x.law(0, 1, 0, 0), 1);
    }

    private static void notInTheImage() {
        ImmunityCatching x = some();
        x.sheet(0, 8, 2);
        x.voice(0, 0, 0);
        x.image();
        x.put(0, 0, 1);
        x.sheet(1, 16, 3);
        x.voice(0, 3, 0);
        x.told(0);
        x.restore();
        Due.due("THE TRACE stays", x.count(9), 5);
        Due.due("SHEET 0 stays", x.judge(0), 1);
        Due.due("SHEET 1 stays", x.move(1, 0, 1, 0, 3), 3);
        Due.due("what told() tells stays", x.told(1), 1);
        Due.due("how often it was done stays", x.image(), 2);
    }

    private static void imageOfNobody() {
        ImmunityCatching x = new ImmunityCatching();
        x.image();
        upset(some());
        x.soul(0, 0);
        Due.due("TEXT", Due.text(x, 0, "0"), 1);
        Due.due("STEP", x.restore(), 0);
        Due.due("nobody", x.count(0), 0);
        Due.due("no TEXT", x.law(0, 0, 0, 0), 1);
        Due.due("a new one is as at first", x.soul(7, 2), 0);
        Due.due("m", x.ofSoul(0, 1), 7);
        x.change(0, 1, 9);
        x.change(0, 2, 1);
        x.change(0, 3, 9);
        x.restore();
        x.soul(10, 3);
        int[] want = {1, 0, 3, 0, 0, 0};
        for (int what = 0; what < want.length; what++) {
            Due.due("ofSoul(0, " + what + ")", x.ofSoul(0, what), want[what]);
        }
    }

    private static void tell() {
        ImmunityCatching x = new ImmunityCatching();
        for (int i = 1; i <= 20; i++) {
            Due.due("tell " + i, x.tell(0), i);
        }
        Due.due("one more", x.tell(0), Due.FULL);
        Due.due("20 wait", x.count(8), 20);
        Due.due("check", x.check(), 0);
        Due.due("none wait", x.count(8), 0);
        Due.due("tell again", x.tell(Due.MIN), 1);
        Due.due("check", x.check(), 1);
    }

    private static void check() {
        ImmunityCatching x = new ImmunityCatching();
        x.soul(0, 0);
        x.soul(20, 1);
        x.change(0, 1, 5);
        x.change(1, 1, 5);
        Due.due("none", x.check(), 0);
        int[] sums = {7, 4, 2, 1, 0, 0};
        for (int sum : sums) {
            x.tell(sum);
        }
        Due.due("all are", x.check(), 0);
        Due.due("none wait", x.count(8), 0);
        Due.due("only thought", x.count(3), 10);
        Due.due("STEP", x.count(1), 0);
        for (int wrong = 0; wrong < sums.length; wrong++) {
            for (int i = 0; i < sums.length; i++) {
                x.tell(i < wrong ? sums[i] : sums[i] + 1);
            }
            Due.due("number " + wrong + " isn't", x.check(), 1 + wrong);
            Due.due("none wait", x.count(8), 0);
        }
    }

    private static void count() {
        ImmunityCatching x = some();
        x.voice(0, 1, 0);
        x.soul(0, 7);
        x.change(2, 2, 1);
        // The ENVOY has 13 in each STEP, of which 12 are left; the THIEF, who is there in every other STEP (4 round
        // the ring), has 10, of which 9, then 8 are left. Each does a deed in each of the 5 STEPS, ahead of the TEXT.
        int[] want = {3, 5, 3, 21, 2, 50, 6, 3, 2, 3, 99};
        for (int what = 0; what <= 10; what++) {
            Due.due("count(" + what + ")", x.count(what), want[what]);
        }
        Due.due("count(11)", x.count(11), Due.BEYOND);
        Due.due("count(-1)", x.count(-1), Due.BEYOND);
    }

    private static void told() {
        ImmunityCatching x = new ImmunityCatching();
        x.soul(0, 0);
        for (int i = 0; i < 1; i++) {
            x.loss(0);
        }
        for (int i = 0; i < 2; i++) {
            x.restore();
        }
        for (int i = 0; i < 3; i++) {
            x.sheet(0, 8, -1);
        }
        for (int i = 0; i < 24; i++) {
            x.tell(1);
        }
        for (int i = 0; i < 5; i++) {
            x.as(0, 6);
        }
        for (int k = 1; k <= 5; k++) {
            Due.due("told(" + k + ")", x.told(k), k);
        }
        Due.due("told(0)", x.told(0), Due.BEYOND);
        Due.due("told(6)", x.told(6), Due.BEYOND);
        Due.due("told(least)", x.told(Due.MIN), Due.BEYOND);
        Due.due("counted, too", x.told(1), 4);
    }
}
