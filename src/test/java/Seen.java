import java.util.ArrayList;
import java.util.List;

/** All that can be seen of an object, by some 300 calls that use it up, so that two of them can be held side by side. */
final class Seen {
    private final ImmunityCatching x;
    private final List<String> answers = new ArrayList<>();

    private Seen(ImmunityCatching x) {
        this.x = x;
    }

    /** Both must be new enough to take the calls; what told() tells is left to the caller. */
    static void alike(String what, ImmunityCatching one, ImmunityCatching other) {
        List<String> ones = new Seen(one).look();
        List<String> others = new Seen(other).look();
        Due.due(what + ": as many answers", ones.size(), others.size());
        for (int i = 0; i < Math.min(ones.size(), others.size()); i++) {
            if (!ones.get(i).equals(others.get(i))) {
                Due.due(what + ": " + ones.get(i) + ", not " + others.get(i), false);
            }
        }
    }

    private void note(String call, int answer) {
        answers.add(call + " is " + answer);
    }

    private List<String> look() {
        counts();
        people();
        laws();
        int bodies = x.count(9);
        for (int i = 0; i < bodies; i++) {
            note("trace(" + i + ")", x.trace(i));
        }
        for (int sheet = 0; sheet < 4; sheet++) {
            sheet(sheet);
        }
        note("text(0)", x.text(0));
        laws();
        note("check()", x.check());
        note("loose(1)", x.loose(1));
        note("steps(1)", x.steps(1));
        note("restore()", x.restore());
        counts();
        people();
        laws();
        note("text(1)", x.text(1));
        note("check()", x.check());
        note("image()", x.image());
        return answers;
    }

    private void counts() {
        for (int what = 0; what <= 10; what++) {
            note("count(" + what + ")", x.count(what));
        }
    }

    private void people() {
        int size = x.count(0);
        for (int who = 0; who < size; who++) {
            for (int what = 0; what <= 5; what++) {
                note("ofSoul(" + who + ", " + what + ")", x.ofSoul(who, what));
            }
        }
    }

    private void laws() {
        for (int v = 0; v < 9; v += 4) {
            note("law(0, " + v + ", ..)", x.law(0, v, v + 1, v + 2));
            note("law(1, " + v + ", ..)", x.law(1, v, v + 1, v + 2));
        }
    }

    /** The first numbers of a SHEET and its last of 40, as far as each can be FREE, how many it has, and its bits. */
    private void sheet(int sheet) {
        note("judge(" + sheet + ")", x.judge(sheet));
        frees(sheet);
        for (int many : new int[] {1, 3, 4, 9, 10, 40}) {
            note("move of " + many + " of SHEET " + sheet, x.move(sheet, 0, sheet, 0, many));
        }
        note("move of the last of SHEET " + sheet, x.move(sheet, 32, sheet, 0, 8));
        frees(sheet);
        for (int v : new int[] {256, 65536}) {
            note("put of " + v + " to SHEET " + sheet, x.put(sheet, 0, v));
            note("frees(" + sheet + ")", x.frees(sheet));
        }
    }

    private void frees(int sheet) {
        note("frees(" + sheet + ")", x.frees(sheet));
        int size = x.count(0);
        for (int who = 0; who < size; who++) {
            note("ofSoul(" + who + ", 3)", x.ofSoul(who, 3));
        }
    }
}
