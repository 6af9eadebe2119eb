import java.util.LinkedHashMap;
import java.util.Map;
import java.util.function.ToIntFunction;

/** The edge of each ERROR: an act that answers one changes nothing but what told() tells. */
final class RefusedEdges {
    private static final String SENTENCE = "one that answers an ERROR changes nothing but what told() tells.";

    private RefusedEdges() {
    }

    static void all() {
        Edge.of(Edge.TERMS, SENTENCE);
        for (Map.Entry<String, ToIntFunction<ImmunityCatching>> refused : ofPeopleAndTexts().entrySet()) {
            changesNothing(refused.getKey(), refused.getValue(), rich(), rich());
        }
        for (Map.Entry<String, ToIntFunction<ImmunityCatching>> refused : ofWouldBe().entrySet()) {
            changesNothing(refused.getKey(), refused.getValue(), rich(), rich());
        }
        for (Map.Entry<String, ToIntFunction<ImmunityCatching>> refused : ofTheRest().entrySet()) {
            changesNothing(refused.getKey(), refused.getValue(), rich(), rich());
        }
        changesNothing("steps: STATE", x -> x.steps(1), late(), late());
        changesNothing("loose: STATE", x -> x.loose(1), late(), late());
        ImmunityCatching nobody = new ImmunityCatching();
        changesNothing("last: NONE", x -> x.last(1, 0), nobody, new ImmunityCatching());
        changesNothing("restore: NONE", x -> x.restore(), Due.with(10, 0, 31, 0), Due.with(10, 0, 31, 0));
        changesNothing("trace: NONE", x -> x.trace(0), Due.with(10, 0, 31, 0), Due.with(10, 0, 31, 0));
    }

    /** Some of everything, as full as it gets: eight PEOPLE, 45 bytes, 20 numbers that wait. */
    private static ImmunityCatching rich() {
        ImmunityCatching x = Due.with(14, 0, 3, 0, 25, 1, 31, 7, 48, 2, 50, 2, 62, 1);
        Due.text(x, 0, "n>1|s=h");
        Due.text(x, 1, "f/9+m%2");
        x.steps(5);
        x.seed(77);
        x.image();
        x.loose(3);
        x.soul(69, 6);
        x.loss(4);
        x.change(1, 2, 1);
        x.change(7, 3, 500);
        x.change(1, 1, 0);
        Due.feed(x, "1+".repeat(22) + "h");
        for (int i = 0; i < 20; i++) {
            x.tell(100 + i);
        }
        Due.row(x, 0, 8, 1, 2, 3, 4, 5, 6, 7, 8, 20);
        Due.row(x, 1, 16, 7, 7, 7);
        x.sheet(3, 32, 40);
        x.put(3, 39, 5);
        x.voice(6, 3, 9);
        return x;
    }

    private static ImmunityCatching late() {
        ImmunityCatching x = Due.with(14, 0, 31, 0, 62, 3);
        x.image();
        Due.goToLastStep(x);
        return x;
    }

    private static void changesNothing(String what, ToIntFunction<ImmunityCatching> call, ImmunityCatching x,
        ImmunityCatching untouched) {
        int[] told = new int[6];
        for (int k = 1; k <= 5; k++) {
            told[k] = x.told(k);
        }
        int answer = call.applyAsInt(x);
        int error = Due.LOW - answer;
        Due.due(what + " is an ERROR", error >= 1 && error <= 5);
        for (int k = 1; k <= 5; k++) {
            Due.due(what + ", told(" + k + ")", x.told(k), told[k] + (k == error ? 1 : 0));
        }
        Seen.alike(what, x, untouched);
    }

    private static Map<String, ToIntFunction<ImmunityCatching>> ofPeopleAndTexts() {
        Map<String, ToIntFunction<ImmunityCatching>> calls = new LinkedHashMap<>();
        calls.put("soul, km", x -> x.soul(70, 0));
        calls.put("soul, STREET", x -> x.soul(0, 8));
        calls.put("soul, FULL", x -> x.soul(0, 0));
        calls.put("ofSoul, of", x -> x.ofSoul(8, 0));
        calls.put("ofSoul, what", x -> x.ofSoul(0, 9));
        calls.put("change, of", x -> x.change(8, 1, 5));
        calls.put("change, what", x -> x.change(0, 4, 5));
        calls.put("change, AT", x -> x.change(0, 0, 8));
        calls.put("change, FREE", x -> x.change(0, 1, 100));
        calls.put("change, GLOVES", x -> x.change(0, 2, 2));
        calls.put("change, DEEDS", x -> x.change(0, 3, 10000));
        calls.put("become, of", x -> x.become(8, 0));
        calls.put("become, km", x -> x.become(0, 70));
        calls.put("as, of", x -> x.as(8, 0));
        calls.put("as, kind", x -> x.as(0, 7));
        calls.put("as, KIND", x -> x.as(0, 6));
        calls.put("loss, below", x -> x.loss(0));
        calls.put("loss, above", x -> x.loss(10));
        calls.put("street, STREET", x -> x.street(8, 0));
        calls.put("street, what", x -> x.street(0, 2));
        calls.put("meet, of", x -> x.meet(8, 0));
        calls.put("meet, with", x -> x.meet(0, 8));
        calls.put("meet, oneself", x -> x.meet(0, 0));
        calls.put("feed, below", x -> x.feed(0x31, 0));
        calls.put("feed, above", x -> x.feed(0x31, 9));
        calls.put("feed, FULL", x -> x.feed(0x3131_3131_3131L, 6));
        calls.put("text, USE", x -> x.text(2));
        calls.put("law, USE", x -> x.law(2, 0, 0, 0));
        calls.put("steps, below", x -> x.steps(0));
        calls.put("steps, above", x -> x.steps(61));
        calls.put("loose, below", x -> x.loose(0));
        calls.put("loose, above", x -> x.loose(41));
        return calls;
    }

    private static Map<String, ToIntFunction<ImmunityCatching>> ofWouldBe() {
        Map<String, ToIntFunction<ImmunityCatching>> calls = new LinkedHashMap<>();
        calls.put("then, n", x -> x.then(61, 0, 0));
        calls.put("then, of", x -> x.then(0, 8, 0));
        calls.put("then, what", x -> x.then(0, 0, 3));
        calls.put("last, n", x -> x.last(0, 0));
        calls.put("last, what", x -> x.last(1, 2));
        calls.put("reaches, of", x -> x.reaches(8));
        calls.put("reaches, NONE", x -> x.reaches(1));
        calls.put("gloves, STREET", x -> x.gloves(8, 0));
        calls.put("gloves, n", x -> x.gloves(0, 21));
        calls.put("gloves, NONE", x -> x.gloves(x.ofSoul(0, 2), 1));
        calls.put("from, SHEET", x -> x.from(4, 0));
        calls.put("from, what", x -> x.from(0, 2));
        calls.put("from, missing", x -> x.from(2, 0));
        calls.put("from, so many numbers", x -> x.from(1, 0));
        calls.put("stand, of", x -> x.stand(8, 0, 0));
        calls.put("stand, n", x -> x.stand(0, 21, 0));
        calls.put("stand, what", x -> x.stand(0, 0, 2));
        calls.put("crush, n", x -> x.crush(61, 0));
        calls.put("crush, what", x -> x.crush(0, 2));
        calls.put("dies, NONE", x -> x.dies());
        calls.put("touch, of", x -> x.touch(8, 0, 0));
        calls.put("touch, n", x -> x.touch(0, 21, 0));
        calls.put("touch, what", x -> x.touch(0, 0, 2));
        calls.put("done, n", x -> x.done(61));
        calls.put("odds, of", x -> x.odds(8, 0, 0));
        calls.put("odds, n", x -> x.odds(0, 61, 0));
        calls.put("odds, part", x -> x.odds(0, 0, 2));
        return calls;
    }

    private static Map<String, ToIntFunction<ImmunityCatching>> ofTheRest() {
        Map<String, ToIntFunction<ImmunityCatching>> calls = new LinkedHashMap<>();
        calls.put("voice, of", x -> x.voice(8, 0, 0));
        calls.put("voice, act", x -> x.voice(0, 4, 0));
        calls.put("trace, NONE", x -> x.trace(40));
        calls.put("sheet, SHEET", x -> x.sheet(4, 8, 1));
        calls.put("sheet, bits", x -> x.sheet(0, 9, 1));
        calls.put("sheet, n", x -> x.sheet(0, 16, 41));
        calls.put("sheet, n of one that is missing", x -> x.sheet(2, 16, 41));
        calls.put("sheet, STATE", x -> x.sheet(0, 16, -1));
        calls.put("put, SHEET", x -> x.put(4, 0, 9));
        calls.put("put, NONE", x -> x.put(2, 0, 9));
        calls.put("put, number", x -> x.put(1, 3, 9));
        calls.put("move, SHEET", x -> x.move(4, 0, 0, 0, 1));
        calls.put("move, other", x -> x.move(0, 0, 4, 0, 1));
        calls.put("move, NONE", x -> x.move(2, 0, 0, 0, 1));
        calls.put("move, other NONE", x -> x.move(0, 0, 2, 0, 1));
        calls.put("move, KIND", x -> x.move(0, 0, 1, 0, 1));
        calls.put("move, n", x -> x.move(0, 0, 0, 1, 9));
        calls.put("move, i", x -> x.move(0, -1, 0, 0, 1));
        calls.put("move, j", x -> x.move(0, 0, 0, 9, 1));
        calls.put("frees, SHEET", x -> x.frees(4));
        calls.put("frees, NONE", x -> x.frees(2));
        calls.put("judge, SHEET", x -> x.judge(4));
        calls.put("judge, NONE", x -> x.judge(2));
        calls.put("tell, FULL", x -> x.tell(7));
        calls.put("count, what", x -> x.count(11));
        calls.put("told, k", x -> x.told(6));
        return calls;
    }
}
