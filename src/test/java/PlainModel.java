import java.util.ArrayList;
import java.util.Arrays;
import java.util.List;

/**
 * The document again, written as unlike the program as can be (people as objects of classes, TEXTS as strings,
 * a new world for each thought), so that a slip in one is not a slip in the other.
 */
final class PlainModel {
    private static class Refusal extends RuntimeException {
        private static final long serialVersionUID = 1L;
        final int k;

        Refusal(int k) {
            super(null, null, false, false);
            this.k = k;
        }
    }

    // ---- kinds as classes

    private static class Soul {
        int m;
        int number;

        int keeps(int step) {
            return 0;
        }

        int hands(int f, int loss) {
            return f - loss;
        }

        int runs() {
            return 1;
        }

        int keepsVoice(List<Integer> t, int x) {
            t.add(10);
            return x + number;
        }

        int handsVoice(List<Integer> t, int x) {
            t.add(11);
            return keepsVoice(t, x) * 2;
        }

        int stealsVoice(List<Integer> t, int x) {
            t.add(12);
            return x - m;
        }

        int tellsVoice(List<Integer> t, int x) {
            t.add(13);
            return handsVoice(t, x) ^ stealsVoice(t, x);
        }
    }

    private static class Envoy extends Soul {
        @Override
        int keeps(int step) {
            return 10 + m;
        }

        @Override
        int keepsVoice(List<Integer> t, int x) {
            t.add(20);
            return super.keepsVoice(t, x) * 3;
        }
    }

    private static class Beggar extends Soul {
        @Override
        int hands(int f, int loss) {
            return super.hands(f, loss) / 2;
        }

        @Override
        int runs() {
            return 2;
        }

        @Override
        int handsVoice(List<Integer> t, int x) {
            t.add(30);
            return super.handsVoice(t, x) - stealsVoice(t, 1);
        }
    }

    private static class Thief extends Soul {
        @Override
        int hands(int f, int loss) {
            int h = f - loss + m;
            return h > f ? f : h;
        }

        @Override
        int runs() {
            return m % 2 == 1 ? 2 : 1;
        }

        @Override
        int stealsVoice(List<Integer> t, int x) {
            t.add(40);
            return -super.stealsVoice(t, x);
        }
    }

    private static class Nuncio extends Envoy {
        @Override
        int keeps(int step) {
            return super.keeps(step) + (step / 7 * 7 == step ? 20 : 0);
        }

        @Override
        int tellsVoice(List<Integer> t, int x) {
            t.add(50);
            return super.tellsVoice(t, x) - keepsVoice(t, 2);
        }
    }

    private static class Judge extends Beggar {
        @Override
        int hands(int f, int loss) {
            return 0;
        }

        @Override
        int runs() {
            return 3;
        }

        @Override
        int handsVoice(List<Integer> t, int x) {
            t.add(60);
            return super.handsVoice(t, x + 1);
        }
    }

    private static class Child extends Thief {
        @Override
        int hands(int f, int loss) {
            return super.hands(f, loss) + 1;
        }

        @Override
        int runs() {
            return 0;
        }

        @Override
        int stealsVoice(List<Integer> t, int x) {
            t.add(70);
            return super.stealsVoice(t, x) ^ number;
        }

        @Override
        int tellsVoice(List<Integer> t, int x) {
            t.add(71);
            return handsVoice(t, x) - super.tellsVoice(t, x);
        }
    }

    private static final List<Class<? extends Soul>> KINDS = List.of(
        Soul.class, Envoy.class, Beggar.class, Thief.class, Nuncio.class, Judge.class, Child.class);

    private static Soul make(int km, int number) {
        Soul made;
        switch (km / 10) {
            case 0: made = new Soul(); break;
            case 1: made = new Envoy(); break;
            case 2: made = new Beggar(); break;
            case 3: made = new Thief(); break;
            case 4: made = new Nuncio(); break;
            case 5: made = new Judge(); break;
            default: made = new Child(); break;
        }
        made.m = km % 10;
        made.number = number;
        return made;
    }

    private static final class Person {
        Soul soul;
        int at;
        int free;
        boolean gloves;
        int deeds;

        Person copy() {
            Person p = new Person();
            p.soul = soul;
            p.at = at;
            p.free = free;
            p.gloves = gloves;
            p.deeds = deeds;
            return p;
        }
    }

    private static final class World {
        final List<Person> people = new ArrayList<>();
        int step = 0;
        int loss = 1;
        String[] texts = new String[2];
        String tape = "";
        List<Integer> waiting = new ArrayList<>();
        int z = 1;

        World copy() {
            World w = new World();
            for (Person p : people) {
                w.people.add(p.copy());
            }
            w.step = step;
            w.loss = loss;
            w.texts = texts.clone();
            w.tape = tape;
            w.waiting = new ArrayList<>(waiting);
            w.z = z;
            return w;
        }

        World behind(int n) {
            World w = copy();
            for (int i = 0; i < n; i++) {
                w.go();
            }
            return w;
        }

        long at(int street) {
            return people.stream().filter(p -> p.at == street).count();
        }

        boolean meet(Person p, Person q) {
            return p != q && p.at == q.at && !p.gloves && !q.gloves && law(0, p.at, step % 24, (int) at(p.at)) != 0;
        }

        int handed(Person p) {
            return Math.min(99, Math.max(0, p.soul.hands(p.free, loss)));
        }

        void go() {
            for (Person p : people) {
                p.free = Math.max(p.free, p.soul.keeps(step));
            }
            int[] got = new int[people.size()];
            for (int i = 0; i < got.length; i++) {
                Person p = people.get(i);
                got[i] = p.free;
                for (Person q : people) {
                    if (meet(p, q)) {
                        got[i] = Math.max(got[i], handed(q));
                    }
                }
            }
            for (int i = 0; i < got.length; i++) {
                Person p = people.get(i);
                p.free = got[i];
                if (p.free > 0) {
                    p.deeds = Math.min(9999, p.deeds + law(1, p.free, p.soul.m, p.at));
                }
                p.free = Math.max(0, p.free - p.soul.runs());
                if (p.soul instanceof Thief && !p.gloves) {
                    p.at = (p.at + p.soul.m) % 8;
                }
            }
            step++;
        }

        int law(int use, int a, int b, int c) {
            String text = texts[use] == null ? (use == 0 ? "1" : "f>5") : texts[use];
            int v = value(text, use == 0 ? "shn" : "fms", new int[] {a, b, c});
            return Math.max(0, Math.min(use == 0 ? 1 : 9, v));
        }

        int free() {
            return people.stream().mapToInt(p -> p.free).sum();
        }

        int deeds() {
            return people.stream().mapToInt(p -> p.deeds).sum();
        }
    }

    // ---- texts as strings

    /** The last of these signs that stands in no parentheses, or -1. */
    private static int lastOf(String text, String signs) {
        int depth = 0;
        for (int i = text.length() - 1; i >= 0; i--) {
            char c = text.charAt(i);
            depth += c == ')' ? 1 : c == '(' ? -1 : 0;
            if (depth == 0 && signs.indexOf(c) >= 0) {
                return i;
            }
        }
        return -1;
    }

    private static int value(String text, String names, int[] given) {
        for (String signs : new String[] {"|", "&", "<=>", "+-", "*/%"}) {
            int i = lastOf(text, signs);
            if (i > 0) {
                return join(text.charAt(i), value(text.substring(0, i), names, given),
                    value(text.substring(i + 1), names, given));
            }
        }
        if (text.charAt(0) == '!') {
            return value(text.substring(1), names, given) == 0 ? 1 : 0;
        }
        if (text.charAt(0) == '(') {
            return value(text.substring(1, text.length() - 1), names, given);
        }
        int name = names.indexOf(text.charAt(0));
        return name >= 0 ? given[name] : Integer.parseInt(text);
    }

    private static int join(char sign, int a, int b) {
        switch (sign) {
            case '|': return (a != 0 ? 1 : 0) | (b != 0 ? 1 : 0);
            case '&': return (a != 0 ? 1 : 0) & (b != 0 ? 1 : 0);
            case '<': return a < b ? 1 : 0;
            case '=': return a == b ? 1 : 0;
            case '>': return a > b ? 1 : 0;
            case '+': return (int) ((long) a + b);
            case '-': return (int) ((long) a - b);
            case '*': return (int) ((long) a * b);
            case '/': return b == 0 ? 0 : (int) ((long) a / b);
            default: return b == 0 ? 0 : (int) ((long) a % b);
        }
    }

    /** Byte by byte, with a stack of what is open; -1 if it is a TEXT. */
    private static int fault(String text, String names) {
        StringBuilder open = new StringBuilder();
        List<Boolean> compared = new ArrayList<>(List.of(false));
        boolean wants = true;
        int digits = 0;
        for (int i = 0; i < text.length(); i++) {
            char c = text.charAt(i);
            int inner = compared.size() - 1;
            boolean digit = c >= '0' && c <= '9';
            if (wants && (digit || names.indexOf(c) >= 0)) {
                wants = false;
                digits = digit ? 1 : 4;
                dropNots(open);
            } else if (wants && (c == '!' || c == '(') && open.length() < 5) {
                open.append(c);
                if (c == '(') {
                    compared.add(false);
                }
            } else if (!wants && digit && digits < 4) {
                digits++;
            } else if (!wants && "+-*/%".indexOf(c) >= 0) {
                wants = true;
            } else if (!wants && "<=>".indexOf(c) >= 0 && !compared.get(inner)) {
                compared.set(inner, true);
                wants = true;
            } else if (!wants && "&|".indexOf(c) >= 0) {
                compared.set(inner, false);
                wants = true;
            } else if (!wants && c == ')' && open.length() > 0) {
                open.setLength(open.length() - 1);
                compared.remove(inner);
                digits = 4;
                dropNots(open);
            } else {
                return i;
            }
        }
        return wants || open.length() > 0 ? text.length() : -1;
    }

    private static void dropNots(StringBuilder open) {
        while (open.length() > 0 && open.charAt(open.length() - 1) == '!') {
            open.setLength(open.length() - 1);
        }
    }

    // ---- the state

    private World w = new World();
    private World kept = null;
    private int images = 0;
    private final int[] told = new int[6];
    private List<Integer> trace = new ArrayList<>();
    private final long[][] sheets = new long[4][];
    private final int[] bits = new int[4];

    /** What a call answers; a refusal is counted here and nowhere else. */
    int answer(String name, long[] a) {
        try {
            return ask(name, a);
        } catch (Refusal r) {
            told[r.k]++;
            return -1000000000 - r.k;
        }
    }

    private static void need(boolean is, int k) {
        if (!is) {
            throw new Refusal(k);
        }
    }

    private static boolean in(long v, long least, long most) {
        return least <= v && v <= most;
    }

    private Person one(long soul) {
        need(in(soul, 0, w.people.size() - 1), 1);
        return w.people.get((int) soul);
    }

    private long[] sheetOf(long sheet) {
        need(in(sheet, 0, 3), 1);
        need(sheets[(int) sheet] != null, 2);
        return sheets[(int) sheet];
    }

    private int ask(String name, long[] a) {
        switch (name) {
            case "soul": case "ofSoul": case "change": case "become": case "as": case "loss": case "street": case "meet":
                return askPeople(name, a);
            case "feed": case "text": case "law": case "steps": case "loose":
                return askTextsAndSteps(name, a);
            case "then": case "last": case "reaches": case "gloves": case "from": case "stand": case "crush":
            case "dies": case "touch": case "done": case "odds":
                return askWouldBe(name, a);
            case "sheet": case "put": case "move": case "frees": case "judge":
                return askSheets(name, a);
            default:
                return askRest(name, a);
        }
    }

    private int askPeople(String name, long[] a) {
        switch (name) {
            case "soul": {
                need(in(a[0], 0, 69) && in(a[1], 0, 7), 1);
                need(w.people.size() < 8, 4);
                Person p = new Person();
                p.soul = make((int) a[0], w.people.size());
                p.at = (int) a[1];
                w.people.add(p);
                return w.people.size() - 1;
            }
            case "ofSoul": {
                Person p = one(a[0]);
                need(in(a[1], 0, 8), 1);
                return new int[] {KINDS.indexOf(p.soul.getClass()), p.soul.m, p.at, p.free, p.gloves ? 1 : 0, p.deeds,
                    p.soul.keeps(w.step), w.handed(p), p.soul.runs()}[(int) a[1]];
            }
            case "change": {
                Person p = one(a[0]);
                need(in(a[1], 0, 3), 1);
                need(in(a[2], 0, new int[] {7, 99, 1, 9999}[(int) a[1]]), 1);
                int was = new int[] {p.at, p.free, p.gloves ? 1 : 0, p.deeds}[(int) a[1]];
                p.at = a[1] == 0 ? (int) a[2] : p.at;
                p.free = a[1] == 1 ? (int) a[2] : p.free;
                p.gloves = a[1] == 2 ? a[2] == 1 : p.gloves;
                p.deeds = a[1] == 3 ? (int) a[2] : p.deeds;
                return was;
            }
            case "become": {
                Person p = one(a[0]);
                need(in(a[1], 0, 69), 1);
                int was = KINDS.indexOf(p.soul.getClass());
                p.soul = make((int) a[1], (int) a[0]);
                return was;
            }
            case "as": {
                Person p = one(a[0]);
                need(in(a[1], 0, 6), 1);
                need(KINDS.get((int) a[1]).isInstance(p.soul), 5);
                return p.soul.m;
            }
            case "loss": {
                need(in(a[0], 1, 9), 1);
                int was = w.loss;
                w.loss = (int) a[0];
                return was;
            }
            case "street": {
                need(in(a[0], 0, 7) && in(a[1], 0, 1), 1);
                int set = 0;
                for (Person p : w.people) {
                    set += p.at == a[0] && (a[1] == 0 || p.free > 0) ? 1 << p.soul.number : 0;
                }
                return set;
            }
            default: {
                Person p = one(a[0]);
                Person q = one(a[1]);
                need(p != q, 1);
                return w.meet(p, q) ? 1 : 0;
            }
        }
    }

    private int askTextsAndSteps(String name, long[] a) {
        switch (name) {
            case "feed": {
                need(in(a[1], 1, 8), 1);
                need(w.tape.length() + a[1] <= 50, 4);
                for (int i = 0; i < a[1]; i++) {
                    w.tape += (char) (a[0] >> 8 * i & 255);
                }
                return w.tape.length();
            }
            case "text": {
                need(in(a[0], 0, 1), 1);
                String read = w.tape;
                w.tape = "";
                int fault = fault(read, a[0] == 0 ? "shn" : "fms");
                if (fault >= 0) {
                    return -10 - fault;
                }
                w.texts[(int) a[0]] = read;
                return 1;
            }
            case "law":
                need(in(a[0], 0, 1), 1);
                return w.law((int) a[0], (int) a[1], (int) a[2], (int) a[3]);
            case "steps":
                need(in(a[0], 1, 60), 1);
                need(w.step + a[0] <= 9999, 3);
                w = w.behind((int) a[0]);
                return w.free();
            default: {
                need(in(a[0], 1, 40), 1);
                need(w.step + a[0] <= 9999, 3);
                for (int i = 0; i < a[0]; i++) {
                    for (Person p : w.people) {
                        w.z = (int) (w.z * 1103515245L + 12345L);
                        long drawn = (w.z & 0xFFFFFFFFL) / 256;
                        if (drawn % 4 == 0) {
                            p.at = (int) (drawn / 4 % 8);
                        }
                    }
                    w.go();
                }
                return w.free();
            }
        }
    }

    private int freeIf(World thought, long soul, long n) {
        return thought.behind((int) n).people.get((int) soul).free;
    }

    private int askWouldBe(String name, long[] a) {
        int size = w.people.size();
        switch (name) {
            case "then": {
                need(in(a[0], 0, 60), 1);
                one(a[1]);
                need(in(a[2], 0, 2), 1);
                Person p = w.behind((int) a[0]).people.get((int) a[1]);
                return a[2] == 0 ? p.free : a[2] == 1 ? p.at : p.deeds;
            }
            case "last": {
                need(in(a[0], 1, 60) && in(a[1], 0, 1), 1);
                need(size > 0, 2);
                int who = -1;
                int most = -1;
                for (int i = 0; i < size; i++) {
                    int times = 0;
                    for (int n = 1; n <= a[0]; n++) {
                        times += freeIf(w, i, n) > 0 ? 1 : 0;
                    }
                    who = times > most ? i : who;
                    most = Math.max(most, times);
                }
                return a[1] == 0 ? who : most;
            }
            case "reaches":
                one(a[0]);
                for (int n = 0; n <= 60; n++) {
                    if (freeIf(w, a[0], n) > 0) {
                        return n;
                    }
                }
                throw new Refusal(2);
            case "gloves": {
                need(in(a[0], 0, 7) && in(a[1], 0, 20), 1);
                int best = -1;
                for (int set = 0; set < 1 << size; set++) {
                    if (away((int) a[0], (int) a[1], set)
                        && (best < 0 || Integer.bitCount(set) < Integer.bitCount(best))) {
                        best = set;
                    }
                }
                need(best >= 0, 2);
                return best;
            }
            case "from":
                return askFrom(a);
            case "stand": {
                one(a[0]);
                need(in(a[1], 0, 20) && in(a[2], 0, 1), 1);
                int[] hours = new int[8];
                for (int street = 0; street < 8; street++) {
                    World t = w.copy();
                    t.people.get((int) a[0]).at = street;
                    hours[street] = freeIf(t, a[0], a[1]);
                }
                return bestOf(hours, a[2]);
            }
            case "crush": {
                need(in(a[0], 0, 60) && in(a[1], 0, 1), 1);
                int[] many = new int[8];
                World t = w.behind((int) a[0]);
                for (int street = 0; street < 8; street++) {
                    many[street] = (int) t.at(street);
                }
                return bestOf(many, a[1]);
            }
            case "dies":
                for (int n = 0; n <= 60; n++) {
                    if (w.behind(n).free() == 0) {
                        return n;
                    }
                }
                throw new Refusal(2);
            case "touch": {
                Person p = one(a[0]);
                need(in(a[1], 0, 20) && in(a[2], 0, 1), 1);
                int[] hours = new int[size + 1];
                hours[0] = freeIf(w, a[0], a[1]);
                for (int i = 0; i < size; i++) {
                    World t = w.copy();
                    t.people.get(i).at = p.at;
                    hours[i + 1] = freeIf(t, a[0], a[1]);
                }
                return bestOf(hours, a[2]) - (a[2] == 0 ? 1 : 0);
            }
            case "done":
                need(in(a[0], 0, 60), 1);
                return w.behind((int) a[0]).deeds() - w.deeds();
            default: {
                one(a[0]);
                need(in(a[1], 0, 60) && in(a[2], 0, 1), 1);
                int above = 0;
                for (int loss = 1; loss <= 9; loss++) {
                    World t = w.copy();
                    t.loss = loss;
                    above += freeIf(t, a[0], a[1]) > 0 ? 1 : 0;
                }
                String[] terms = {"0/1", "1/9", "2/9", "1/3", "4/9", "5/9", "2/3", "7/9", "8/9", "1/1"};
                return terms[above].charAt(a[2] == 0 ? 0 : 2) - '0';
            }
        }
    }

    private static int bestOf(int[] values, long what) {
        int most = Arrays.stream(values).max().getAsInt();
        for (int i = 0; what == 0; i++) {
            if (values[i] == most) {
                return i;
            }
        }
        return most;
    }

    private boolean away(int street, int n, int set) {
        World t = w.copy();
        for (Person p : t.people) {
            p.gloves |= (set & 1 << p.soul.number) != 0;
        }
        for (int i = 0; i < n; i++) {
            t.go();
            if (t.people.stream().anyMatch(p -> p.at == street && p.free > 0)) {
                return false;
            }
        }
        return true;
    }

    private int askFrom(long[] a) {
        need(in(a[0], 0, 3) && in(a[1], 0, 1), 1);
        long[] row = sheetOf(a[0]);
        int size = w.people.size();
        need(row.length == size + 1 && in(row[size], 0, 20), 2);
        int set = 0;
        for (int i = 0; i < size; i++) {
            World t = w.copy();
            for (Person p : t.people) {
                p.free = p.soul.number == i ? p.free : 0;
            }
            t = t.behind((int) row[size]);
            boolean so = true;
            for (Person p : t.people) {
                so &= p.free == row[p.soul.number];
            }
            set += so ? 1 << i : 0;
        }
        return a[1] == 0 ? set : Integer.bitCount(set);
    }

    private int askSheets(String name, long[] a) {
        switch (name) {
            case "sheet":
                need(in(a[0], 0, 3) && List.of(0L, 8L, 16L, 32L).contains(a[1]), 1);
                if (a[1] != 0) {
                    need(a[2] >= 0, 3);
                    need(a[2] <= 40, 1);
                }
                bits[(int) a[0]] = (int) a[1];
                sheets[(int) a[0]] = a[1] == 0 ? null : new long[(int) a[2]];
                return 1;
            case "put": {
                long[] row = sheetOf(a[0]);
                need(in(a[1], 0, row.length - 1), 1);
                row[(int) a[1]] = a[2] & (1L << bits[(int) a[0]]) - 1;
                return 1;
            }
            case "move": {
                need(in(a[0], 0, 3) && in(a[2], 0, 3), 1);
                long[] one = sheetOf(a[0]).clone();
                long[] other = sheetOf(a[2]);
                need(bits[(int) a[0]] == bits[(int) a[2]], 5);
                need(in(a[4], 0, 40) && in(a[1], 0, one.length - a[4]) && in(a[3], 0, other.length - a[4]), 1);
                for (int i = 0; i < a[4]; i++) {
                    other[(int) a[3] + i] = one[(int) a[1] + i];
                }
                return (int) a[4];
            }
            case "frees": {
                long[] row = sheetOf(a[0]);
                int i = 0;
                while (i < row.length && i < w.people.size() && in(row[i], 0, 99)) {
                    w.people.get(i).free = (int) row[i];
                    i++;
                }
                return i;
            }
            default: {
                long[] row = sheetOf(a[0]);
                long[] is = w.people.stream().mapToLong(p -> p.at).toArray();
                return Arrays.mismatch(row, is);
            }
        }
    }

    private int askRest(String name, long[] a) {
        switch (name) {
            case "seed": {
                int was = w.z;
                w.z = (int) a[0];
                return was;
            }
            case "voice": {
                Soul s = one(a[0]).soul;
                need(in(a[1], 0, 3), 1);
                trace = new ArrayList<>();
                int x = (int) a[2];
                return a[1] == 0 ? s.keepsVoice(trace, x) : a[1] == 1 ? s.handsVoice(trace, x)
                    : a[1] == 2 ? s.stealsVoice(trace, x) : s.tellsVoice(trace, x);
            }
            case "trace":
                need(in(a[0], 0, Math.min(40, trace.size()) - 1), 2);
                return trace.get((int) a[0]);
            case "image":
                kept = w.copy();
                return ++images;
            case "restore":
                need(kept != null, 2);
                w = kept.copy();
                return w.step;
            case "tell":
                need(w.waiting.size() < 20, 4);
                w.waiting.add((int) a[0]);
                return w.waiting.size();
            case "check": {
                List<Integer> waiting = w.waiting;
                w.waiting = new ArrayList<>();
                for (int i = 0; i < waiting.size(); i++) {
                    if (w.behind(i + 1).free() != waiting.get(i)) {
                        return 1 + i;
                    }
                }
                return 0;
            }
            case "count": {
                need(in(a[0], 0, 10), 1);
                int gloves = w.people.stream().filter(p -> p.gloves).mapToInt(p -> 1 << p.soul.number).sum();
                return new int[] {w.people.size(), w.step, w.loss, w.free(),
                    (int) w.people.stream().filter(p -> p.free > 0).count(), w.deeds(), gloves, w.tape.length(),
                    w.waiting.size(), Math.min(40, trace.size()), w.z}[(int) a[0]];
            }
            default:
                need(in(a[0], 1, 5), 1);
                return told[(int) a[0]];
        }
    }
}
