import java.util.function.ToIntFunction;

/** Edges of promises 34 to 39: image, restore, tell, check, count, told; and that what would be is only thought. */
final class ToldEdges {
    private ToldEdges() {
    }

    static void all() {
        onlyThought();
        imageInPlace();
        notInTheImage();
        restoreAll();
        restoreNone();
        tellAnyNumber();
        tellFull();
        checkNoneWait();
        checkPlace();
        countAll();
        countZ();
        countBeyond();
        toldEach();
        toldAnother();
    }

    private static ImmunityCatching some() {
        ImmunityCatching x = Due.with(14, 0, 31, 0, 62, 1, 48, 2, 25, 2, 50, 0);
        Due.text(x, 0, "n>1|s=h");
        Due.text(x, 1, "f/9+m%2");
        x.steps(5);
        x.loss(3);
        x.change(1, 2, 1);
        x.seed(-5);
        x.voice(2, 3, 1);
        Due.row(x, 0, 8, 1, 2, 3, 4, 5, 6, 20);
        Due.feed(x, "s+h");
        x.tell(5);
        return x;
    }

    private static void thinks(String what, ToIntFunction<ImmunityCatching> call) {
        ImmunityCatching x = some();
        Due.due(what + " is no ERROR", call.applyAsInt(x) > Due.LOW);
        Seen.alike(what, x, some());
    }

    private static void onlyThought() {
        Edge.of(Edge.TERMS, "(All this is only thought");
        thinks("then", x -> x.then(60, 1, 2));
        thinks("last", x -> x.last(60, 0));
        thinks("reaches", x -> x.reaches(5));
        thinks("gloves", x -> x.gloves(6, 20));
        thinks("from", x -> x.from(0, 0));
        thinks("stand", x -> x.stand(1, 20, 0));
        thinks("crush", x -> x.crush(60, 0));
        thinks("touch", x -> x.touch(1, 20, 0));
        thinks("done", x -> x.done(60));
        thinks("odds", x -> x.odds(1, 60, 0));
        ImmunityCatching x = some();
        Due.due("dies, not by 60", x.dies(), Due.NONE);
        Seen.alike("dies", x, some());
        x = some();
        x.check();
        ImmunityCatching y = some();
        y.check();
        y.tell(0);
        y.tell(0);
        y.check();
        Seen.alike("check", x, y);
    }

    private static void imageInPlace() {
        Edge.of(34, "is kept as an IMAGE, in place of one ahead: how often that was done.");
        ImmunityCatching x = Due.with(10, 0);
        Due.due("once", x.image(), 1);
        x.steps(3);
        Due.due("twice", x.image(), 2);
        x.steps(4);
        Due.due("the latest", x.restore(), 3);
        Due.due("three times, though the IMAGE is of the second", x.image(), 3);
        x.restore();
        Due.due("four times", x.image(), 4);
        Due.due("of nobody", new ImmunityCatching().image(), 1);
    }

    private static void notInTheImage() {
        Edge.of(34, "All (but SHEETS, THE TRACE, what told() tells, and how often this was done)");
        ImmunityCatching x = Due.with(0, 0, 60, 1);
        Due.row(x, 0, 8, 0, 1);
        x.voice(0, 0, 0);
        x.told(9);
        x.image();
        x.put(0, 1, 5);
        x.sheet(1, 16, 1);
        x.sheet(2, 32, 0);
        x.voice(1, 3, 0);
        x.told(9);
        x.tell(0);
        x.restore();
        Due.due("SHEET 0 as it is", x.judge(0), 1);
        Due.due("SHEET 1 is there", x.put(1, 0, 0), 1);
        Due.due("SHEET 2 is there", x.put(2, 0, 0), Due.BEYOND);
        Due.due("THE TRACE as it is", x.count(9), 9);
        Due.due("THE TRACE's first", x.trace(0), 71);
        Due.due("what told() tells as it is", x.told(1), 3);
        Due.due("but no number waits", x.count(8), 0);
        Due.due("how often it was done", x.image(), 2);
        x.sheet(0, 0, 0);
        x.restore();
        Due.due("SHEET 0 is missing still", x.judge(0), Due.NONE);
    }

    private static void upset(ImmunityCatching x) {
        x.text(0);
        Due.text(x, 0, "0");
        Due.text(x, 1, "9");
        Due.feed(x, "((((");
        x.check();
        x.tell(1);
        x.tell(2);
        x.soul(10, 3);
        x.soul(69, 3);
        for (int who = 0; who < 6; who++) {
            x.become(who, 60 - 10 * who);
            x.change(who, 0, 7 - who);
            x.change(who, 1, 90 - who);
            x.change(who, 2, 1 - x.ofSoul(who, 4));
            x.change(who, 3, 77);
        }
        x.loss(9);
        x.loose(7);
        x.seed(3);
    }

    private static void restoreAll() {
        Edge.of(35, "All is as the IMAGE has it, which stays: STEP.");
        ImmunityCatching x = some();
        x.image();
        upset(x);
        Due.due("STEP", x.restore(), 5);
        upset(x);
        Due.due("STEP, again", x.restore(), 5);
        ImmunityCatching y = some();
        y.image();
        Seen.alike("as it was", x, y);
        x = new ImmunityCatching();
        x.image();
        upset(x);
        Due.due("STEP of nobody", x.restore(), 0);
        y = new ImmunityCatching();
        y.image();
        Seen.alike("nobody", x, y);
        x = Due.with(0, 0);
        Due.goToLastStep(x);
        x.image();
        Due.due("the last STEP", x.restore(), 9999);
        restoreEight();
        x = Due.with(0, 0, 0, 0);
        x.image();
        for (int i = 2; i < 8; i++) {
            x.soul(10, i);
            x.change(i, 2, 1);
            x.change(i, 3, 9);
        }
        Due.due("full", x.soul(0, 0), Due.FULL);
        x.restore();
        Due.due("two", x.count(0), 2);
        Due.due("there is no number 2", x.ofSoul(2, 0), Due.BEYOND);
        Due.due("a new number 2", x.soul(25, 5), 2);
        int[] want = {2, 5, 5, 0, 0, 0};
        for (int what = 0; what < want.length; what++) {
            Due.due("as at first, what " + what, x.ofSoul(2, what), want[what]);
        }
    }

    private static void restoreEight() {
        ImmunityCatching x = new ImmunityCatching();
        for (int i = 0; i < 8; i++) {
            x.soul(61 - i, i);
            x.change(i, 1, 99 - i);
            x.change(i, 2, i & 1);
            x.change(i, 3, 9999 - i);
        }
        x.image();
        for (int i = 0; i < 8; i++) {
            x.become(i, 0);
            for (int what = 0; what < 4; what++) {
                x.change(i, what, 0);
            }
        }
        x.restore();
        for (int i = 0; i < 8; i++) {
            int[] want = {(61 - i) / 10, (61 - i) % 10, i, 99 - i, i & 1, 9999 - i};
            for (int what = 0; what < want.length; what++) {
                Due.due("of " + i + " of eight, what " + what, x.ofSoul(i, what), want[what]);
            }
        }
    }

    private static void restoreNone() {
        Edge.of(35, "NONE: there is none.");
        ImmunityCatching x = Due.with(0, 0);
        Due.due("none", x.restore(), Due.NONE);
        Due.due("one is there", x.count(0), 1);
        x.image();
        Due.due("there is one", x.restore(), 0);
        Due.due("it stays", x.restore(), 0);
        Due.due("told", x.told(2), 1);
    }

    private static void tellAnyNumber() {
        Edge.of(36, "One more number waits: how many.");
        ImmunityCatching x = new ImmunityCatching();
        int many = 0;
        for (int v : new int[] {0, -1, Due.MIN, Due.MAX, Due.BEYOND}) {
            many++;
            Due.due("tell(" + v + ")", x.tell(v), many);
            Due.due("so many wait", x.count(8), many);
        }
        Due.due("the second isn't so", x.check(), 2);
        Due.due("one", x.tell(0), 1);
    }

    private static void tellFull() {
        Edge.of(36, "FULL: 20 wait.");
        ImmunityCatching x = Due.with(0, 0);
        for (int i = 1; i <= 20; i++) {
            Due.due("tell", x.tell(i == 20 ? 1 : 0), i);
        }
        Due.due("one more", x.tell(0), Due.FULL);
        Due.due("20 wait", x.count(8), 20);
        Due.due("the last of 20 isn't so", x.check(), 20);
        Due.due("one again", x.tell(0), 1);
        Due.due("told", x.told(4), 1);
    }

    private static void checkNoneWait() {
        Edge.of(37, "The numbers that wait (none do then)");
        ImmunityCatching x = Due.with(0, 0);
        Due.due("none wait", x.check(), 0);
        x.tell(0);
        x.tell(0);
        Due.due("two that are so", x.check(), 0);
        Due.due("none wait then", x.count(8), 0);
        x.tell(1);
        x.tell(0);
        Due.due("two, of which the first isn't so", x.check(), 1);
        Due.due("none wait then", x.count(8), 0);
        Due.due("none wait", x.check(), 0);
    }

    private static void checkPlace() {
        Edge.of(37, "are FREE of all together behind 1, 2, .. STEPS: 0; else 1 and the place (from 0) of the first that "
            + "isn't so.");
        for (int wrong = 0; wrong <= 20; wrong++) {
            ImmunityCatching x = Due.with(0, 0, 60, 1);
            x.change(0, 1, 19);
            x.change(1, 1, 5);
            for (int i = 0; i < 20; i++) {
                x.tell(Math.max(0, 18 - i) + 5 + (i >= wrong ? 1 : 0));
            }
            Due.due("from " + wrong + " on they aren't so", x.check(), wrong == 20 ? 0 : 1 + wrong);
            Due.due("it is only thought", x.count(3), 24);
        }
        ImmunityCatching x = Due.with(0, 0);
        x.change(0, 1, 9);
        x.tell(9);
        Due.due("what is now doesn't count", x.check(), 1);
    }

    private static void countAll() {
        Edge.of(38, "0 PEOPLE, 1 STEP, 2 LOSS, 3 FREE of all together, 4 how many are FREE, 5 DEEDS of all, 6 who wear "
            + "GLOVES, as a set, 7 bytes of THE TAPE, 8 numbers that wait, 9 BODIES in THE TRACE");
        ImmunityCatching x = new ImmunityCatching();
        for (int i = 0; i < 8; i++) {
            x.soul(60, i);
            x.change(i, 1, 99);
            x.change(i, 2, 1);
            x.change(i, 3, 9999);
        }
        x.loss(9);
        Due.feed(x, "1".repeat(50));
        for (int i = 0; i < 20; i++) {
            x.tell(i);
        }
        x.voice(0, 3, 0);
        int[] most = {8, 0, 9, 792, 8, 79992, 255, 50, 20, 9};
        for (int what = 0; what < most.length; what++) {
            Due.due("as full as it gets, count(" + what + ")", x.count(what), most[what]);
        }
        Due.goToLastStep(x);
        Due.due("the last STEP", x.count(1), 9999);
        x = Due.with(0, 0, 0, 0);
        x.change(1, 1, 1);
        Due.due("FREE for 1 is FREE", x.count(4), 1);
        x.change(1, 2, 1);
        Due.due("who wear GLOVES", x.count(6), 2);
    }

    private static void countZ() {
        Edge.of(38, "10 z (any number).");
        ImmunityCatching x = new ImmunityCatching();
        for (int v : new int[] {Due.MIN, Due.MAX, 0, Due.BEYOND, Due.KIND}) {
            x.seed(v);
            Due.due("z", x.count(10), v);
        }
        Due.due("none was an ERROR", x.told(1) + x.told(5), 0);
    }

    private static void countBeyond() {
        Edge.of(38, "BEYOND.");
        ImmunityCatching x = new ImmunityCatching();
        for (int what : new int[] {-1, 11, Due.MIN, Due.MAX}) {
            Due.due("count(" + what + ")", x.count(what), Due.BEYOND);
        }
        Due.due("told", x.told(1), 4);
    }

    private static void toldEach() {
        Edge.of(39, "How many acts have answered an ERROR LOW - k (k 1 .. 5)");
        ImmunityCatching x = Due.with(0, 0);
        for (int i = 0; i < 20; i++) {
            x.tell(0);
        }
        for (int many = 1; many <= 40; many++) {
            x.loss(0);
            x.restore();
            x.sheet(0, 8, -1);
            x.tell(0);
            x.as(0, 1);
        }
        for (int k = 1; k <= 5; k++) {
            Due.due("told(" + k + ")", x.told(k), 40);
        }
        x.text(0);
        x.seed(Due.BEYOND);
        x.seed(1);
        Due.due("a FAULT, and any number, are none", x.told(1), 40);
    }

    private static void toldAnother() {
        Edge.of(39, "BEYOND: another k (counted, too).");
        ImmunityCatching x = new ImmunityCatching();
        int many = 0;
        for (int k : new int[] {0, 6, -1, Due.MIN, Due.MAX, Due.BEYOND}) {
            Due.due("told(" + k + ")", x.told(k), Due.BEYOND);
            many++;
            Due.due("counted", x.told(1), many);
        }
        for (int k = 2; k <= 5; k++) {
            Due.due("not as another", x.told(k), 0);
        }
    }
}
