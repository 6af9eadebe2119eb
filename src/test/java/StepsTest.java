/** Promises 13 and 14: steps, loose. */
public final class StepsTest {
    public static void main(String[] args) {
        oneStep();
        allAtOnce();
        deeds();
        runsOut();
        walks();
        glovesOn();
        meetsByText();
        nuncio();
        severalSteps();
        wrongSteps();
        loose();
        looseFarOn();
        lastStep();
        Due.end();
    }

    private static void frees(ImmunityCatching x, int... want) {
        for (int i = 0; i < want.length; i++) {
            Due.due("FREE of " + i, x.ofSoul(i, 3), want[i]);
        }
    }

    private static void oneStep() {
        ImmunityCatching x = Due.with(14, 0, 0, 0, 25, 0, 0, 1);
        Due.due("13, 12, 11 and 0", x.steps(1), 36);
        frees(x, 13, 12, 11, 0);
        Due.due("STEP", x.count(1), 1);
        Due.due("one has the greater of KEEPS and FREE", x.change(0, 1, 50), 13);
        x.loss(9);
        x.steps(1);
        frees(x, 49, 40, 39, 0);
        Due.due("nobody", new ImmunityCatching().steps(60), 0);
    }

    private static void allAtOnce() {
        ImmunityCatching x = Due.with(68, 0, 68, 0);
        x.change(0, 1, 10);
        x.change(1, 1, 10);
        Due.due("each hands 11, none 12", x.steps(1), 22);
        Due.due("each hands 12", x.steps(1), 24);
        x = Due.with(68, 0);
        x.change(0, 1, 10);
        Due.due("nobody hands oneself", x.steps(1), 10);
        x = Due.with(0, 0, 0, 0, 0, 0);
        x.change(0, 1, 50);
        x.change(1, 1, 20);
        x.loss(5);
        x.steps(1);
        frees(x, 49, 44, 44);
    }

    private static void deeds() {
        ImmunityCatching x = Due.with(0, 0, 0, 1, 0, 2);
        x.change(0, 1, 6);
        x.change(1, 1, 5);
        x.steps(1);
        Due.due("6 is above 5, ahead of what runs", x.ofSoul(0, 5), 1);
        Due.due("5 is not", x.ofSoul(1, 5), 0);
        Due.due("TEXT", Due.text(x, 1, "9"), 1);
        x.change(1, 1, 1);
        x.change(0, 3, 9995);
        x.steps(1);
        Due.due("held at 9999", x.ofSoul(0, 5), 9999);
        Due.due("FREE for 1 does it still", x.ofSoul(1, 5), 9);
        Due.due("and is free no more", x.ofSoul(1, 3), 0);
        Due.due("who is not FREE does none", x.ofSoul(2, 5), 0);
        x = Due.with(32, 7);
        Due.due("TEXT", Due.text(x, 1, "s+m-f"), 1);
        x.change(0, 1, 5);
        x.steps(1);
        Due.due("by FREE, m and STREET as they are then", x.ofSoul(0, 5), 4);
        x = Due.with(10, 0, 0, 0);
        Due.due("TEXT", Due.text(x, 1, "f"), 1);
        x.change(1, 1, 1);
        x.steps(1);
        Due.due("by what was handed on", x.ofSoul(1, 5), 9);
    }

    private static void runsOut() {
        ImmunityCatching x = Due.with(0, 0, 20, 1, 50, 2, 30, 3, 31, 4, 60, 5);
        for (int i = 0; i < 6; i++) {
            x.change(i, 1, 10);
        }
        x.steps(1);
        frees(x, 9, 8, 7, 9, 8, 10);
        for (int i = 0; i < 6; i++) {
            x.change(i, 1, 1);
        }
        x.steps(1);
        frees(x, 0, 0, 0, 0, 0, 1);
    }

    private static void walks() {
        ImmunityCatching x = Due.with(33, 0, 69, 6, 43, 0, 53, 0, 13, 0, 23, 0, 3, 0, 30, 5);
        x.steps(1);
        int[] at = {3, 7, 0, 0, 0, 0, 0, 5};
        for (int i = 0; i < at.length; i++) {
            Due.due("AT of " + i, x.ofSoul(i, 2), at[i]);
        }
        x.change(0, 2, 1);
        x.steps(2);
        Due.due("THIEF with GLOVES stays", x.ofSoul(0, 2), 3);
        Due.due("CHILD goes round", x.ofSoul(1, 2), 1);
    }

    private static void glovesOn() {
        ImmunityCatching x = Due.with(15, 0, 0, 0, 0, 0);
        x.change(0, 2, 1);
        x.change(1, 1, 5);
        x.steps(1);
        frees(x, 14, 4, 3);
        x.change(0, 2, 0);
        x.change(2, 2, 1);
        x.steps(1);
        frees(x, 14, 13, 2);
    }

    private static void meetsByText() {
        ImmunityCatching x = Due.with(10, 0, 0, 0, 10, 1, 0, 1);
        Due.due("TEXT", Due.text(x, 0, "s=1&h=1"), 1);
        x.steps(1);
        frees(x, 9, 0, 9, 0);
        x.steps(1);
        frees(x, 9, 0, 9, 8);
        x.change(3, 1, 0);
        x.steps(23);
        frees(x, 9, 0, 9, 0);
        x.steps(1);
        frees(x, 9, 0, 9, 8);
        x = Due.with(10, 0, 0, 0, 0, 0);
        Due.due("TEXT", Due.text(x, 0, "n=3"), 1);
        x.change(2, 2, 1);
        x.steps(1);
        frees(x, 9, 8, 0);
    }

    private static void nuncio() {
        ImmunityCatching x = Due.with(42, 0);
        Due.due("at STEP 0", x.steps(1), 31);
        Due.due("31 runs out", x.steps(6), 25);
        Due.due("at STEP 7", x.steps(1), 31);
        x.change(0, 1, 0);
        Due.due("at STEP 8", x.steps(1), 11);
    }

    private static void severalSteps() {
        ImmunityCatching x = Due.with(14, 0, 30, 0, 61, 7, 25, 1, 50, 0);
        ImmunityCatching y = Due.with(14, 0, 30, 0, 61, 7, 25, 1, 50, 0);
        int sum = 0;
        for (int i = 0; i < 60; i++) {
            sum = y.steps(1);
        }
        Due.due("60 at once", x.steps(60), sum);
        for (int i = 0; i < 5; i++) {
            for (int what = 0; what < 9; what++) {
                Due.due("of " + i + " what " + what, x.ofSoul(i, what), y.ofSoul(i, what));
            }
        }
    }

    private static void wrongSteps() {
        ImmunityCatching x = Due.with(14, 0);
        Due.due("steps(0)", x.steps(0), Due.BEYOND);
        Due.due("steps(61)", x.steps(61), Due.BEYOND);
        Due.due("steps(-1)", x.steps(-1), Due.BEYOND);
        Due.due("steps(most)", x.steps(Due.MAX), Due.BEYOND);
        Due.due("loose(0)", x.loose(0), Due.BEYOND);
        Due.due("loose(41)", x.loose(41), Due.BEYOND);
        Due.due("loose(-1)", x.loose(-1), Due.BEYOND);
        Due.due("STEP", x.count(1), 0);
        Due.due("z", x.count(10), 1);
    }

    private static void loose() {
        ImmunityCatching x = Due.with(0, 5, 0, 5, 0, 5, 0, 5, 0, 5, 0, 5, 0, 5);
        x.change(3, 2, 1);
        Due.due("loose(1)", x.loose(1), 0);
        // z goes 1103527590, 2524885223, 662824084, 3295386429, 4182499122, 2516284547, 3655513600; without its
        // lowest byte: 4310654, 9862832, 2589156, 12872603, 16337887, 9829236, 14279350; by 4 only the second,
        // the third and the sixth go, and a quarter of these leaves 4, 1 and 5 by 8.
        int[] at = {5, 4, 1, 5, 5, 5, 5};
        for (int i = 0; i < at.length; i++) {
            Due.due("AT of " + i, x.ofSoul(i, 2), at[i]);
        }
        Due.due("z", x.count(10), (int) 3655513600L);
        Due.due("STEP", x.count(1), 1);
    }

    private static void looseFarOn() {
        ImmunityCatching x = Due.with(0, 0, 0, 0, 31, 0);
        x.change(2, 2, 1);
        x.seed(-77);
        long z = -77;
        int[] at = new int[3];
        for (int i = 0; i < 40; i++) {
            for (int who = 0; who < 3; who++) {
                z = (z * 1103515245L + 12345L) & 0xFFFFFFFFL;
                long drawn = z / 256;
                at[who] = drawn % 4 == 0 ? (int) (drawn / 4 % 8) : at[who];
            }
        }
        Due.due("loose(40)", x.loose(40), 0);
        for (int who = 0; who < 3; who++) {
            Due.due("AT of " + who, x.ofSoul(who, 2), at[who]);
        }
        Due.due("z", x.count(10), (int) z);
        Due.due("STEP", x.count(1), 40);
        x = Due.with(0, 4, 10, 0);
        x.loose(1);
        Due.due("1 goes to 4", x.ofSoul(1, 2), 4);
        Due.due("ahead of the STEP, so that they MEET", x.ofSoul(0, 3), 8);
        x = Due.with(0, 0, 10, 0);
        x.loose(1);
        Due.due("1 goes away from 0, to 4", x.ofSoul(1, 2), 4);
        Due.due("so that they don't MEET", x.ofSoul(0, 3), 0);
    }

    private static void lastStep() {
        ImmunityCatching x = Due.with(14, 0, 31, 0);
        for (int i = 0; i < 166; i++) {
            x.steps(60);
        }
        Due.due("STEP", x.count(1), 9960);
        Due.due("steps(40)", x.steps(40), Due.STATE);
        Due.due("loose(40)", x.loose(40), Due.STATE);
        Due.due("steps(61): BEYOND ahead of STATE", x.steps(61), Due.BEYOND);
        Due.due("z", x.count(10), 1);
        Due.due("steps(38)", x.steps(38) > 0);
        Due.due("loose(2)", x.loose(2), Due.STATE);
        Due.due("loose(1)", x.loose(1) > 0);
        Due.due("STEP", x.count(1), 9999);
        Due.due("steps(1)", x.steps(1), Due.STATE);
        Due.due("loose(1)", x.loose(1), Due.STATE);
        Due.due("told", x.told(3), 5);
        Due.due("a thought goes beyond", x.then(60, 0, 0), 13);
        Due.due("STEP", x.count(1), 9999);
        x = Due.with(14, 0);
        Due.goToLastStep(x);
        Due.due("FREE", x.count(3), 13);
        Due.due("STEP", x.count(1), 9999);
    }
}
