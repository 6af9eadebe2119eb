/** Promises 15 to 25: then, last, reaches, gloves, from, stand, crush, dies, touch, done, odds. */
public final class WouldBeTest {
    public static void main(String[] args) {
        then();
        last();
        reaches();
        gloves();
        glovesOfFew();
        from();
        fromWrong();
        stand();
        crush();
        dies();
        touch();
        done();
        odds();
        fullHouse();
        onlyThought();
        beyond();
        Due.end();
    }

    private static void then() {
        ImmunityCatching x = Due.with(31, 6, 10, 0);
        x.change(0, 3, 5);
        Due.due("FREE behind 0", x.then(0, 0, 0), 0);
        Due.due("AT behind 0", x.then(0, 0, 1), 6);
        Due.due("DEEDS behind 0", x.then(0, 0, 2), 5);
        Due.due("FREE behind 2", x.then(2, 0, 0), 0);
        Due.due("AT behind 2", x.then(2, 0, 1), 0);
        Due.due("FREE behind 3", x.then(3, 0, 0), 7);
        Due.due("AT behind 3", x.then(3, 0, 1), 1);
        Due.due("DEEDS behind 3", x.then(3, 0, 2), 6);
        Due.due("AT behind 60", x.then(60, 0, 1), 66 % 8);
        Due.due("ENVOY behind 60", x.then(60, 1, 0), 9);
        Due.due("DEEDS of ENVOY behind 60", x.then(60, 1, 2), 60);
    }

    private static void last() {
        Due.due("nobody", new ImmunityCatching().last(1, 0), Due.NONE);
        Due.due("nobody, BEYOND first", new ImmunityCatching().last(0, 0), Due.BEYOND);
        ImmunityCatching x = Due.with(0, 0, 0, 1, 0, 2);
        Due.due("none FREE: the least", x.last(60, 0), 0);
        Due.due("for none", x.last(60, 1), 0);
        x.change(0, 1, 3);
        x.change(1, 1, 5);
        x.change(2, 1, 5);
        Due.due("of 10", x.last(10, 0), 1);
        Due.due("for", x.last(10, 1), 4);
        Due.due("of 1", x.last(1, 0), 0);
        Due.due("for", x.last(1, 1), 1);
        Due.due("of 2", x.last(2, 0), 0);
        Due.due("for", x.last(2, 1), 2);
        Due.due("of 3", x.last(3, 0), 1);
        Due.due("for", x.last(3, 1), 3);
        x.become(2, 60);
        Due.due("of 60", x.last(60, 0), 2);
        Due.due("for", x.last(60, 1), 60);
    }

    private static void reaches() {
        ImmunityCatching x = Due.with(10, 0, 31, 6, 0, 5);
        Due.due("ENVOY", x.reaches(0), 1);
        Due.due("THIEF", x.reaches(1), 3);
        Due.due("SOUL", x.reaches(2), Due.NONE);
        x.change(2, 1, 1);
        Due.due("FREE now", x.reaches(2), 0);
        // Two CHILDREN who stay (8 round the ring) have 1, 2, 3 more, once a day; a BEGGAR keeps 1 of 3.
        x = Due.with(68, 0, 68, 0, 20, 0);
        Due.due("TEXT", Due.text(x, 0, "h=11"), 1);
        Due.due("CHILD", x.reaches(0), 12);
        Due.due("BEGGAR", x.reaches(2), 60);
        Due.due("TEXT", Due.text(x, 0, "h=12"), 1);
        Due.due("BEGGAR behind 61", x.reaches(2), Due.NONE);
    }

    private static void gloves() {
        ImmunityCatching x = Due.with(10, 0, 0, 0, 31, 0);
        Due.due("n 0", x.gloves(0, 0), 0);
        Due.due("ENVOY there", x.gloves(0, 1), Due.NONE);
        Due.due("nobody comes", x.gloves(3, 2), 0);
        Due.due("by ENVOY", x.gloves(1, 3), 1);
        x.change(2, 2, 1);
        Due.due("THIEF has them on", x.gloves(1, 20), 0);
        x.change(2, 2, 0);
        x.become(1, 10);
        Due.due("THIEF, not both ENVOYS", x.gloves(1, 3), 4);
        Due.due("behind 2 one is there first", x.gloves(2, 1), 0);
        Due.due("behind 2", x.gloves(2, 2), 4);
        x = Due.with(31, 3);
        x.change(0, 1, 9);
        Due.due("without GLOVES one goes away", x.gloves(3, 1), 0);
        Due.due("with GLOVES one doesn't come", x.gloves(4, 1), 1);
        Due.due("one comes back behind 8, and is FREE no more", x.gloves(3, 20), 0);
    }

    private static void glovesOfFew() {
        ImmunityCatching x = Due.with(31, 0, 31, 0, 10, 0, 0, 3, 10, 3);
        Due.due("both THIEVES or the ENVOY", x.gloves(1, 1), 4);
        x.become(3, 39);
        x.change(3, 1, 30);
        Due.due("and one who comes from elsewhere", x.gloves(4, 1), 8);
        x = Due.with(10, 0, 10, 0, 31, 0, 31, 0);
        Due.due("of {0, 1} and {2, 3} the least", x.gloves(1, 1), 3);
        x = Due.with(31, 0, 10, 0, 31, 0, 10, 0);
        Due.due("of {0, 2} and {1, 3} the least", x.gloves(1, 1), 5);
    }

    private static void froms(ImmunityCatching x, int sheet, int set) {
        Due.due("from, the set", x.from(sheet, 0), set);
        Due.due("from, how many", x.from(sheet, 1), set < 0 ? set : Integer.bitCount(set));
    }

    private static void from() {
        ImmunityCatching x = Due.with(0, 0, 0, 0, 0, 0);
        for (int i = 0; i < 3; i++) {
            x.change(i, 1, 5);
        }
        Due.row(x, 0, 8, 4, 3, 3, 1);
        froms(x, 0, 1);
        Due.row(x, 1, 16, 3, 4, 3, 1);
        froms(x, 1, 2);
        Due.row(x, 1, 16, 3, 3, 3, 1);
        froms(x, 1, 0);
        Due.row(x, 2, 32, 5, 0, 0, 0);
        froms(x, 2, 1);
        Due.row(x, 2, 32, 0, 0, 0, 20);
        froms(x, 2, 7);
        x.change(1, 1, 0);
        x.change(2, 1, 0);
        Due.row(x, 3, 8, 0, 0, 0, 0);
        froms(x, 3, 6);
        Due.due("FREE stays", x.ofSoul(0, 3), 5);
        x = Due.with(10, 0, 0, 3);
        x.change(0, 1, 2);
        x.change(1, 1, 2);
        Due.row(x, 0, 8, 9, 1, 1);
        froms(x, 0, 2);
        x = new ImmunityCatching();
        Due.row(x, 0, 8, 7);
        froms(x, 0, 0);
    }

    private static void fromWrong() {
        ImmunityCatching x = Due.with(0, 0, 0, 0);
        froms(x, 0, Due.NONE);
        Due.row(x, 0, 8, 0, 0);
        froms(x, 0, Due.NONE);
        Due.row(x, 0, 8, 0, 0, 0, 0);
        froms(x, 0, Due.NONE);
        Due.row(x, 0, 8, 0, 0, 21);
        froms(x, 0, Due.NONE);
        Due.row(x, 0, 8, 0, 0, -1);
        froms(x, 0, Due.NONE);
        Due.row(x, 0, 32, 0, 0, -1);
        froms(x, 0, Due.NONE);
        Due.row(x, 0, 8, 0, 0, 20);
        froms(x, 0, 3);
        froms(x, 4, Due.BEYOND);
        froms(x, -1, Due.BEYOND);
        Due.due("BEYOND ahead of NONE", x.from(1, 2), Due.BEYOND);
        Due.due("what -1", x.from(0, -1), Due.BEYOND);
    }

    private static void stand() {
        ImmunityCatching x = Due.with(19, 5, 12, 3, 0, 0);
        Due.due("the STREET", x.stand(2, 1, 0), 5);
        Due.due("HOURS", x.stand(2, 1, 1), 17);
        Due.due("now", x.stand(2, 0, 0), 0);
        Due.due("HOURS now", x.stand(2, 0, 1), 0);
        x.become(1, 19);
        Due.due("of several the least", x.stand(2, 1, 0), 3);
        x.change(2, 2, 1);
        x.change(2, 1, 5);
        Due.due("with GLOVES all are alike", x.stand(2, 3, 0), 0);
        Due.due("HOURS", x.stand(2, 3, 1), 2);
        Due.due("AT stays", x.ofSoul(2, 2), 0);
        x = Due.with(38, 6, 18, 1);
        x.become(0, 31);
        Due.due("a THIEF who comes by behind 19", x.stand(0, 20, 0), 6);
    }

    private static void crush() {
        ImmunityCatching x = Due.with(0, 1, 0, 1, 0, 3, 0, 3, 31, 2, 31, 2);
        Due.due("behind 0", x.crush(0, 0), 1);
        Due.due("how many", x.crush(0, 1), 2);
        Due.due("behind 1", x.crush(1, 0), 3);
        Due.due("how many", x.crush(1, 1), 4);
        Due.due("behind 2", x.crush(2, 0), 1);
        Due.due("how many", x.crush(2, 1), 2);
        Due.due("behind 7", x.crush(7, 0), 1);
        Due.due("how many", x.crush(7, 1), 4);
        Due.due("behind 57", x.crush(57, 0), 3);
        Due.due("nobody", new ImmunityCatching().crush(60, 0), 0);
        Due.due("how many", new ImmunityCatching().crush(60, 1), 0);
        Due.due("at 7", Due.with(0, 7).crush(60, 0), 7);
    }

    private static void dies() {
        Due.due("nobody", new ImmunityCatching().dies(), 0);
        ImmunityCatching x = Due.with(0, 0);
        Due.due("none", x.dies(), 0);
        x.change(0, 1, 60);
        Due.due("60", x.dies(), 60);
        x.change(0, 1, 61);
        Due.due("61", x.dies(), Due.NONE);
        x.become(0, 50);
        x.change(0, 1, 10);
        Due.due("10, 7, 4, 1, 0", x.dies(), 4);
        x.soul(10, 1);
        Due.due("with an ENVOY", x.dies(), Due.NONE);
        x.change(0, 1, 0);
        Due.due("ahead of all", x.dies(), 0);
    }

    private static void touch() {
        ImmunityCatching x = Due.with(0, 0, 12, 3, 19, 5, 19, 6);
        Due.due("who", x.touch(0, 1, 0), 2);
        Due.due("HOURS", x.touch(0, 1, 1), 17);
        Due.due("now, nobody", x.touch(0, 0, 0), -1);
        Due.due("HOURS now", x.touch(0, 0, 1), 0);
        x.change(2, 2, 1);
        Due.due("not one with GLOVES", x.touch(0, 1, 0), 3);
        x.change(2, 2, 0);
        x.change(2, 0, 0);
        Due.due("who is there is as much", x.touch(0, 1, 0), -1);
        Due.due("HOURS", x.touch(0, 1, 1), 17);
        Due.due("ENVOY needs nobody", x.touch(2, 1, 0), -1);
        Due.due("HOURS", x.touch(2, 1, 1), 18);
        Due.due("alone", Due.with(0, 0).touch(0, 20, 0), -1);
        Due.due("HOURS", Due.with(0, 0).touch(0, 20, 1), 0);
        x = Due.with(0, 0, 10, 0, 19, 1);
        Due.due("TEXT", Due.text(x, 0, "n=2"), 1);
        Due.due("one more is worse", x.touch(0, 1, 0), -1);
        Due.due("HOURS", x.touch(0, 1, 1), 8);
        Due.due("others stay AT", x.ofSoul(2, 2), 1);
    }

    private static void done() {
        ImmunityCatching x = Due.with(0, 0, 0, 1);
        x.change(0, 1, 8);
        x.change(0, 3, 100);
        Due.due("by 0", x.done(0), 0);
        Due.due("by 2", x.done(2), 2);
        Due.due("by 60", x.done(60), 3);
        x.change(1, 1, 7);
        Due.due("of all", x.done(60), 5);
        x.change(0, 3, 9998);
        Due.due("held", x.done(60), 3);
        Due.due("nobody", new ImmunityCatching().done(60), 0);
    }

    private static void odds() {
        ImmunityCatching x = Due.with(0, 0, 0, 0);
        int[][] terms = {{0, 1}, {1, 9}, {2, 9}, {1, 3}, {4, 9}, {5, 9}, {2, 3}, {7, 9}, {8, 9}, {1, 1}};
        x.loss(4);
        for (int i = 0; i < 10; i++) {
            x.change(0, 1, i + 2);
            Due.due("above, FREE " + (i + 2), x.odds(1, 1, 0), terms[i][0]);
            Due.due("below, FREE " + (i + 2), x.odds(1, 1, 1), terms[i][1]);
        }
        Due.due("behind 0", x.odds(1, 0, 0), 0);
        Due.due("behind 0", x.odds(1, 0, 1), 1);
        Due.due("who is FREE now", x.odds(0, 0, 0), 1);
        Due.due("who is FREE now", x.odds(0, 0, 1), 1);
        Due.due("behind 60", x.odds(0, 60, 0), 0);
        Due.due("LOSS stays", x.count(2), 4);
    }

    /** Eight, each AT a STREET of one's own, FREE for 10, 11, .. HOURS; the last is a THIEF who goes 1 round the ring. */
    private static void fullHouse() {
        ImmunityCatching x = Due.with(0, 0, 0, 1, 0, 2, 0, 3, 0, 4, 0, 5, 0, 6, 0, 7);
        x.sheet(0, 8, 9);
        for (int i = 0; i < 8; i++) {
            x.change(i, 1, 10 + i);
            x.put(0, i, i == 7 ? 15 : 0);
        }
        x.put(0, 8, 1);
        Due.due("last", x.last(60, 0), 7);
        Due.due("last, for", x.last(60, 1), 16);
        x.become(7, 31);
        Due.due("FREE of the last behind 2", x.then(2, 7, 0), 13);
        Due.due("AT of the last behind 2", x.then(2, 7, 1), 1);
        Due.due("DEEDS of the last behind 2", x.then(2, 7, 2), 2);
        Due.due("last: 0, who has 15 of the THIEF in the second STEP, as 6 has", x.last(60, 0), 0);
        Due.due("last, for", x.last(60, 1), 15);
        Due.due("reaches", x.reaches(7), 0);
        Due.due("gloves: 7 stays, or goes and nobody is there", x.gloves(7, 1), 0);
        Due.due("gloves: one who lives there", x.gloves(6, 1), Due.NONE);
        Due.due("from the last alone", x.from(0, 0), 128);
        Due.due("from one", x.from(0, 1), 1);
        Due.due("stand", x.stand(0, 1, 0), 7);
        Due.due("stand, HOURS: what a THIEF hands on of 17", x.stand(0, 1, 1), 16);
        Due.due("crush", x.crush(1, 0), 0);
        Due.due("crush, how many", x.crush(1, 1), 2);
        Due.due("touch", x.touch(0, 1, 0), 7);
        Due.due("touch, HOURS", x.touch(0, 1, 1), 16);
        Due.due("dies: the THIEF has 15, 13, .. 0, hands what he has on the way", x.dies(), 16);
        Due.due("done by 1", x.done(1), 8);
        Due.due("odds: of 17 at least 1 is left behind 8", x.odds(7, 8, 0), 1);
        Due.due("odds", x.odds(7, 8, 1), 1);
        x.restore();
        x.image();
        x.change(7, 0, 3);
        x.change(7, 2, 1);
        x.restore();
        Due.due("the last is AT 7 again", x.street(7, 0), 128);
        Due.due("without GLOVES", x.count(6), 0);
        Due.due("one STEP", x.steps(1), 9 + 10 + 11 + 12 + 13 + 14 + 15 + 15);
        x.change(3, 1, 99);
        Due.due("touch by 3", x.touch(4, 1, 0), 3);
        x.change(0, 1, 99);
        Due.due("touch by 0", x.touch(4, 1, 0), 0);
    }

    private static void onlyThought() {
        ImmunityCatching x = Due.with(14, 0, 31, 0, 62, 1, 48, 2);
        x.steps(3);
        x.sheet(0, 8, 5);
        x.then(60, 0, 0);
        x.last(60, 0);
        x.reaches(2);
        x.gloves(1, 20);
        x.from(0, 0);
        x.stand(1, 20, 0);
        x.crush(60, 0);
        x.dies();
        x.touch(1, 20, 0);
        x.done(60);
        x.odds(1, 60, 0);
        ImmunityCatching y = Due.with(14, 0, 31, 0, 62, 1, 48, 2);
        y.steps(3);
        for (int what = 0; what <= 10; what++) {
            Due.due("count(" + what + ")", x.count(what), y.count(what));
        }
        for (int who = 0; who < 4; who++) {
            for (int what = 0; what <= 8; what++) {
                Due.due("ofSoul(" + who + ", " + what + ")", x.ofSoul(who, what), y.ofSoul(who, what));
            }
        }
    }

    private static void beyond() {
        ImmunityCatching x = Due.with(0, 0);
        for (int bad : new int[] {-1, Due.MIN, 61, Due.MAX}) {
            Due.due("then, n " + bad, x.then(bad, 0, 0), Due.BEYOND);
            Due.due("last, n " + bad, x.last(bad, 0), Due.BEYOND);
            Due.due("crush, n " + bad, x.crush(bad, 0), Due.BEYOND);
            Due.due("done, n " + bad, x.done(bad), Due.BEYOND);
            Due.due("odds, n " + bad, x.odds(0, bad, 0), Due.BEYOND);
        }
        Due.due("last, n 0", x.last(0, 0), Due.BEYOND);
        for (int bad : new int[] {-1, 21, Due.MAX}) {
            Due.due("gloves, n " + bad, x.gloves(0, bad), Due.BEYOND);
            Due.due("stand, n " + bad, x.stand(0, bad, 0), Due.BEYOND);
            Due.due("touch, n " + bad, x.touch(0, bad, 0), Due.BEYOND);
        }
        for (int bad : new int[] {-1, 1, Due.MAX}) {
            Due.due("then, of " + bad, x.then(0, bad, 0), Due.BEYOND);
            Due.due("reaches " + bad, x.reaches(bad), Due.BEYOND);
            Due.due("stand, of " + bad, x.stand(bad, 0, 0), Due.BEYOND);
            Due.due("touch, of " + bad, x.touch(bad, 0, 0), Due.BEYOND);
            Due.due("odds, of " + bad, x.odds(bad, 0, 0), Due.BEYOND);
        }
        for (int bad : new int[] {-1, 2}) {
            Due.due("last, what " + bad, x.last(1, bad), Due.BEYOND);
            Due.due("stand, what " + bad, x.stand(0, 0, bad), Due.BEYOND);
            Due.due("crush, what " + bad, x.crush(0, bad), Due.BEYOND);
            Due.due("touch, what " + bad, x.touch(0, 0, bad), Due.BEYOND);
            Due.due("odds, part " + bad, x.odds(0, 0, bad), Due.BEYOND);
        }
        Due.due("then, what 3", x.then(0, 0, 3), Due.BEYOND);
        Due.due("then, what -1", x.then(0, 0, -1), Due.BEYOND);
        Due.due("gloves, street 8", x.gloves(8, 0), Due.BEYOND);
        Due.due("gloves, street -1", x.gloves(-1, 0), Due.BEYOND);
        Due.due("n may be 20", x.gloves(0, 20) + x.stand(0, 20, 0) + x.touch(0, 20, 0), -1);
        Due.due("n may be 60", x.then(60, 0, 0) + x.last(60, 0) + x.crush(60, 0) + x.done(60) + x.odds(0, 60, 0), 0);
    }
}
