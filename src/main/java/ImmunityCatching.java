/**
 * Streets round a ring, people of kinds who may not be touched for some hours, and who hand that on, at a loss.
 *
 * Everything that a call needs is made in the constructor and used again: no later call makes an object.
 */
public final class ImmunityCatching {
    private static final int LOW = -1000000000;
    private static final int BEYOND = 1;
    private static final int NONE = 2;
    private static final int STATE = 3;
    private static final int FULL = 4;
    private static final int UNLIKE = 5;
    private static final int ERRORS = 5;

    private static final int MOST_PEOPLE = 8;
    private static final int STREETS = 8;
    private static final int MOST_FREE = 99;
    private static final int MOST_DEEDS = 9999;
    private static final int MOST_LOSS = 9;
    private static final int LAST_STEP = 9999;
    private static final int HOURS_OF_DAY = 24;

    private static final int FAR = 60;
    private static final int NEAR = 20;
    private static final int MOST_DRAWN = 40;

    private static final int MOST_TAPE = 50;
    private static final int MOST_WAITING = 20;
    private static final int SHEETS = 4;
    private static final int MOST_NUMBERS = 40;
    private static final int MOST_TRACE = 40;

    private static final int SOUL = 0;
    private static final int ENVOY = 1;
    private static final int BEGGAR = 2;
    private static final int THIEF = 3;
    private static final int NUNCIO = 4;
    private static final int JUDGE = 5;
    private static final int CHILD = 6;
    private static final int KINDS = 7;
    private static final int[] KIND_ABOVE = {-1, SOUL, SOUL, SOUL, ENVOY, BEGGAR, THIEF};
    private static final int KIND_LEVELS = 3;

    private static final int USES = 2;

    private final Town now;
    private final Town kept;
    /** What is only thought: it shares the laws of {@code now}, and nothing else. */
    private final Folk thought;
    private final Reader reader;
    private final Voices voices;
    private final Row[] rows;
    private final int[] refused;
    private final int[] timesFree;
    private int images;

    public ImmunityCatching() {
        now = new Town();
        kept = new Town();
        thought = new Folk(now.meeting, now.deed);
        reader = new Reader();
        voices = new Voices();
        rows = new Row[SHEETS];
        for (int i = 0; i < SHEETS; i++) {
            rows[i] = new Row();
        }
        refused = new int[ERRORS + 1];
        timesFree = new int[MOST_PEOPLE];
        images = 0;
    }

    // ---- people

    public int soul(int km, int street) {
        if (!isKindAndNumber(km) || !isStreet(street)) {
            return refuse(BEYOND);
        }
        if (now.folk.size >= MOST_PEOPLE) {
            return refuse(FULL);
        }
        return now.folk.join(km, street);
    }

    public int ofSoul(int soul, int what) {
        if (!isSoul(soul)) {
            return refuse(BEYOND);
        }
        Folk folk = now.folk;
        switch (what) {
            case 0: return folk.kind[soul];
            case 1: return folk.m[soul];
            case 2: return folk.at[soul];
            case 3: return folk.free[soul];
            case 4: return folk.gloved[soul];
            case 5: return folk.deeds[soul];
            case 6: return folk.keepsOf(soul);
            case 7: return folk.handsOf(soul);
            case 8: return folk.runsOf(soul);
            default: return refuse(BEYOND);
        }
    }

    public int change(int soul, int what, int v) {
        if (!isSoul(soul)) {
            return refuse(BEYOND);
        }
        Folk folk = now.folk;
        switch (what) {
            case 0: return replace(folk.at, soul, v, STREETS - 1);
            case 1: return replace(folk.free, soul, v, MOST_FREE);
            case 2: return replace(folk.gloved, soul, v, 1);
            case 3: return replace(folk.deeds, soul, v, MOST_DEEDS);
            default: return refuse(BEYOND);
        }
    }

    public int become(int soul, int km) {
        if (!isSoul(soul) || !isKindAndNumber(km)) {
            return refuse(BEYOND);
        }
        int was = now.folk.kind[soul];
        now.folk.turnInto(soul, km);
        return was;
    }

    public int as(int soul, int kind) {
        if (!isSoul(soul) || !within(kind, 0, KINDS - 1)) {
            return refuse(BEYOND);
        }
        if (!isUnder(now.folk.kind[soul], kind)) {
            return refuse(UNLIKE);
        }
        return now.folk.m[soul];
    }

    public int loss(int v) {
        if (!within(v, 1, MOST_LOSS)) {
            return refuse(BEYOND);
        }
        int was = now.folk.loss;
        now.folk.loss = v;
        return was;
    }

    public int street(int street, int what) {
        if (!isStreet(street) || !isEither(what)) {
            return refuse(BEYOND);
        }
        return what == 0 ? now.folk.whoAt(street) : now.folk.whoFreeAt(street);
    }

    public int meet(int one, int other) {
        if (!isSoul(one) || !isSoul(other) || one == other) {
            return refuse(BEYOND);
        }
        return now.folk.canTouch(one, other) && now.folk.handsOnAt(now.folk.at[one]) ? 1 : 0;
    }

    // ---- texts

    public int feed(long word, int n) {
        if (!within(n, 1, 8)) {
            return refuse(BEYOND);
        }
        if (now.tape.size + n > MOST_TAPE) {
            return refuse(FULL);
        }
        for (int i = 0; i < n; i++) {
            now.tape.add((int) (word >>> (8 * i)) & 255);
        }
        return now.tape.size;
    }

    public int text(int use) {
        if (!isUse(use)) {
            return refuse(BEYOND);
        }
        int fault = reader.read(now.tape, use);
        now.tape.clear();
        if (fault >= 0) {
            return -10 - fault;
        }
        now.ruleOf(use).copy(reader.rule);
        return 1;
    }

    public int law(int use, int a, int b, int c) {
        if (!isUse(use)) {
            return refuse(BEYOND);
        }
        return use == 0 ? now.folk.meets(a, b, c) : now.folk.deedsBy(a, b, c);
    }

    // ---- steps

    public int steps(int n) {
        if (!within(n, 1, FAR)) {
            return refuse(BEYOND);
        }
        if (now.folk.step + n > LAST_STEP) {
            return refuse(STATE);
        }
        now.folk.pass(n);
        return now.folk.freeTogether();
    }

    public int loose(int n) {
        if (!within(n, 1, MOST_DRAWN)) {
            return refuse(BEYOND);
        }
        if (now.folk.step + n > LAST_STEP) {
            return refuse(STATE);
        }
        for (int i = 0; i < n; i++) {
            now.stray();
            now.folk.pass(1);
        }
        return now.folk.freeTogether();
    }

    // ---- what would be

    public int then(int n, int soul, int what) {
        if (!within(n, 0, FAR) || !isSoul(soul) || !within(what, 0, 2)) {
            return refuse(BEYOND);
        }
        think();
        thought.pass(n);
        switch (what) {
            case 0: return thought.free[soul];
            case 1: return thought.at[soul];
            default: return thought.deeds[soul];
        }
    }

    public int last(int n, int what) {
        if (!within(n, 1, FAR) || !isEither(what)) {
            return refuse(BEYOND);
        }
        if (now.folk.size == 0) {
            return refuse(NONE);
        }
        countTimesFree(n);
        int most = 0;
        for (int who = 1; who < now.folk.size; who++) {
            if (timesFree[who] > timesFree[most]) {
                most = who;
            }
        }
        return what == 0 ? most : timesFree[most];
    }

    public int reaches(int soul) {
        if (!isSoul(soul)) {
            return refuse(BEYOND);
        }
        think();
        for (int n = 0; n <= FAR; n++) {
            if (thought.free[soul] > 0) {
                return n;
            }
            thought.pass(1);
        }
        return refuse(NONE);
    }

    public int gloves(int street, int n) {
        if (!isStreet(street) || !within(n, 0, NEAR)) {
            return refuse(BEYOND);
        }
        int size = now.folk.size;
        int sets = 1 << size;
        for (int few = 0; few <= size; few++) {
            for (int set = 0; set < sets; set++) {
                if (Integer.bitCount(set) == few && staysAway(street, n, set)) {
                    return set;
                }
            }
        }
        return refuse(NONE);
    }

    public int from(int sheet, int what) {
        Row row = rowOf(sheet);
        if (row == null || !isEither(what)) {
            return refuse(BEYOND);
        }
        int size = now.folk.size;
        if (row.isMissing() || row.size != size + 1 || !within(row.numbers[size], 0, NEAR)) {
            return refuse(NONE);
        }
        int set = 0;
        for (int who = 0; who < size; who++) {
            if (canHaveComeBy(who, row, row.numbers[size])) {
                set |= 1 << who;
            }
        }
        return what == 0 ? set : Integer.bitCount(set);
    }

    public int stand(int soul, int n, int what) {
        if (!isSoul(soul) || !within(n, 0, NEAR) || !isEither(what)) {
            return refuse(BEYOND);
        }
        int best = 0;
        int most = -1;
        for (int street = 0; street < STREETS; street++) {
            int hours = hoursWith(soul, n, soul, street);
            if (hours > most) {
                best = street;
                most = hours;
            }
        }
        return what == 0 ? best : most;
    }

    public int crush(int n, int what) {
        if (!within(n, 0, FAR) || !isEither(what)) {
            return refuse(BEYOND);
        }
        think();
        thought.pass(n);
        int best = 0;
        for (int street = 1; street < STREETS; street++) {
            if (thought.howManyAt(street) > thought.howManyAt(best)) {
                best = street;
            }
        }
        return what == 0 ? best : thought.howManyAt(best);
    }

    public int dies() {
        think();
        for (int n = 0; n <= FAR; n++) {
            if (thought.howManyFree() == 0) {
                return n;
            }
            thought.pass(1);
        }
        return refuse(NONE);
    }

    public int touch(int soul, int n, int what) {
        if (!isSoul(soul) || !within(n, 0, NEAR) || !isEither(what)) {
            return refuse(BEYOND);
        }
        int street = now.folk.at[soul];
        int best = -1;
        int most = hoursWith(soul, n, soul, street);
        for (int other = 0; other < now.folk.size; other++) {
            int hours = hoursWith(soul, n, other, street);
            if (hours > most) {
                best = other;
                most = hours;
            }
        }
        return what == 0 ? best : most;
    }

    public int done(int n) {
        if (!within(n, 0, FAR)) {
            return refuse(BEYOND);
        }
        think();
        thought.pass(n);
        return thought.deedsTogether() - now.folk.deedsTogether();
    }

    public int odds(int soul, int n, int part) {
        if (!isSoul(soul) || !within(n, 0, FAR) || !isEither(part)) {
            return refuse(BEYOND);
        }
        int above = 0;
        for (int loss = 1; loss <= MOST_LOSS; loss++) {
            think();
            thought.loss = loss;
            thought.pass(n);
            if (thought.free[soul] > 0) {
                above++;
            }
        }
        int common = commonDivisor(above, MOST_LOSS);
        return (part == 0 ? above : MOST_LOSS) / common;
    }

    // ---- draws, voices, sheets, images, what is told

    public int seed(int v) {
        int was = now.z;
        now.z = v;
        return was;
    }

    public int voice(int soul, int act, int x) {
        if (!isSoul(soul) || !within(act, 0, Voices.ACTS - 1)) {
            return refuse(BEYOND);
        }
        return voices.speak(now.folk.kind[soul], soul, now.folk.m[soul], act, x);
    }

    public int trace(int i) {
        if (!within(i, 0, voices.begun.size - 1)) {
            return refuse(NONE);
        }
        return voices.begun.items[i];
    }

    public int sheet(int sheet, int bits, int n) {
        Row row = rowOf(sheet);
        if (row == null || (bits != 0 && bits != 8 && bits != 16 && bits != 32)) {
            return refuse(BEYOND);
        }
        if (bits != 0 && n < 0) {
            return refuse(STATE);
        }
        if (bits != 0 && n > MOST_NUMBERS) {
            return refuse(BEYOND);
        }
        row.lay(bits, bits == 0 ? 0 : n);
        return 1;
    }

    public int put(int sheet, int i, int v) {
        Row row = rowOf(sheet);
        if (row == null) {
            return refuse(BEYOND);
        }
        if (row.isMissing()) {
            return refuse(NONE);
        }
        if (!within(i, 0, row.size - 1)) {
            return refuse(BEYOND);
        }
        row.numbers[i] = row.lowestBits(v);
        return 1;
    }

    public int move(int sheet, int i, int other, int j, int n) {
        Row source = rowOf(sheet);
        Row target = rowOf(other);
        if (source == null || target == null) {
            return refuse(BEYOND);
        }
        if (source.isMissing() || target.isMissing()) {
            return refuse(NONE);
        }
        if (source.bits != target.bits) {
            return refuse(UNLIKE);
        }
        if (!source.holds(i, n) || !target.holds(j, n)) {
            return refuse(BEYOND);
        }
        System.arraycopy(source.numbers, i, target.numbers, j, n);
        return n;
    }

    public int frees(int sheet) {
        Row row = rowOf(sheet);
        if (row == null) {
            return refuse(BEYOND);
        }
        if (row.isMissing()) {
            return refuse(NONE);
        }
        int most = Math.min(row.size, now.folk.size);
        for (int i = 0; i < most; i++) {
            if (!within(row.numbers[i], 0, MOST_FREE)) {
                return i;
            }
            now.folk.free[i] = row.numbers[i];
        }
        return most;
    }

    public int judge(int sheet) {
        Row row = rowOf(sheet);
        if (row == null) {
            return refuse(BEYOND);
        }
        if (row.isMissing()) {
            return refuse(NONE);
        }
        int both = Math.min(row.size, now.folk.size);
        for (int i = 0; i < both; i++) {
            if (row.numbers[i] != now.folk.at[i]) {
                return i;
            }
        }
        return row.size == now.folk.size ? -1 : both;
    }

    public int image() {
        kept.copy(now);
        images++;
        return images;
    }

    public int restore() {
        if (images == 0) {
            return refuse(NONE);
        }
        now.copy(kept);
        return now.folk.step;
    }

    public int tell(int v) {
        if (now.waiting.size >= MOST_WAITING) {
            return refuse(FULL);
        }
        now.waiting.add(v);
        return now.waiting.size;
    }

    public int check() {
        int wrong = firstWrongOfWaiting();
        now.waiting.clear();
        return wrong < 0 ? 0 : 1 + wrong;
    }

    public int count(int what) {
        switch (what) {
            case 0: return now.folk.size;
            case 1: return now.folk.step;
            case 2: return now.folk.loss;
            case 3: return now.folk.freeTogether();
            case 4: return now.folk.howManyFree();
            case 5: return now.folk.deedsTogether();
            case 6: return now.folk.whoWearGloves();
            case 7: return now.tape.size;
            case 8: return now.waiting.size;
            case 9: return voices.begun.size;
            case 10: return now.z;
            default: return refuse(BEYOND);
        }
    }

    public int told(int k) {
        if (!within(k, 1, ERRORS)) {
            return refuse(BEYOND);
        }
        return refused[k];
    }

    // ---- what the calls share

    private int refuse(int error) {
        if (within(error, 1, ERRORS)) {
            refused[error]++;
        }
        return LOW - error;
    }

    private int replace(int[] those, int soul, int v, int most) {
        if (!within(v, 0, most) || !within(soul, 0, those.length - 1)) {
            return refuse(BEYOND);
        }
        int was = those[soul];
        those[soul] = v;
        return was;
    }

    private boolean isSoul(int soul) {
        return within(soul, 0, now.folk.size - 1);
    }

    private Row rowOf(int sheet) {
        return within(sheet, 0, SHEETS - 1) ? rows[sheet] : null;
    }

    private void think() {
        thought.copy(now.folk);
    }

    private void countTimesFree(int n) {
        think();
        for (int who = 0; who < thought.size; who++) {
            timesFree[who] = 0;
        }
        for (int i = 0; i < n; i++) {
            thought.pass(1);
            for (int who = 0; who < thought.size; who++) {
                timesFree[who] += thought.free[who] > 0 ? 1 : 0;
            }
        }
    }

    private boolean staysAway(int street, int n, int set) {
        think();
        thought.putGlovesOn(set);
        for (int i = 0; i < n; i++) {
            thought.pass(1);
            if (thought.whoFreeAt(street) != 0) {
                return false;
            }
        }
        return true;
    }

    private boolean canHaveComeBy(int who, Row row, int n) {
        think();
        thought.leaveFreeOnly(who);
        thought.pass(n);
        for (int i = 0; i < thought.size; i++) {
            if (thought.free[i] != row.numbers[i]) {
                return false;
            }
        }
        return true;
    }

    /** HOURS for which soul is FREE behind n STEPS, were the one who is put AT the street there now. */
    private int hoursWith(int soul, int n, int isPut, int street) {
        think();
        thought.at[isPut] = street;
        thought.pass(n);
        return thought.free[soul];
    }

    private int firstWrongOfWaiting() {
        think();
        for (int i = 0; i < now.waiting.size; i++) {
            thought.pass(1);
            if (thought.freeTogether() != now.waiting.items[i]) {
                return i;
            }
        }
        return -1;
    }

    private static boolean within(int v, int least, int most) {
        return v >= least && v <= most;
    }

    private static int held(int v, int least, int most) {
        return Math.max(least, Math.min(most, v));
    }

    private static boolean isStreet(int street) {
        return within(street, 0, STREETS - 1);
    }

    private static boolean isKindAndNumber(int km) {
        return within(km, 0, 10 * KINDS - 1);
    }

    private static boolean isUse(int use) {
        return within(use, 0, USES - 1);
    }

    private static boolean isEither(int what) {
        return what == 0 || what == 1;
    }

    private static boolean isUnder(int kind, int above) {
        int next = kind;
        for (int i = 0; i < KIND_LEVELS && within(next, 0, KINDS - 1); i++) {
            if (next == above) {
                return true;
            }
            next = KIND_ABOVE[next];
        }
        return false;
    }

    /** For a of 0 and more, b of 1 and more: the answer is never 0. */
    private static int commonDivisor(int a, int b) {
        int large = b;
        int small = a;
        for (int i = 0; i < FAR && small > 0; i++) {
            int rest = large % small;
            large = small;
            small = rest;
        }
        return Math.max(1, large);
    }

    /** All that an IMAGE keeps. */
    private static final class Town {
        final Rule meeting;
        final Rule deed;
        final Folk folk;
        final Shelf tape;
        final Shelf waiting;
        int z;

        Town() {
            meeting = new Rule();
            deed = new Rule();
            folk = new Folk(meeting, deed);
            tape = new Shelf(MOST_TAPE);
            waiting = new Shelf(MOST_WAITING);
            z = 1;
        }

        void copy(Town other) {
            meeting.copy(other.meeting);
            deed.copy(other.deed);
            folk.copy(other.folk);
            tape.copy(other.tape);
            waiting.copy(other.waiting);
            z = other.z;
        }

        Rule ruleOf(int use) {
            return use == 0 ? meeting : deed;
        }

        void stray() {
            for (int who = 0; who < folk.size; who++) {
                int drawn = draw();
                if (drawn % 4 == 0) {
                    folk.at[who] = drawn / 4 % STREETS;
                }
            }
        }

        private int draw() {
            z = z * 1103515245 + 12345;
            return z >>> 8;
        }
    }

    /** PEOPLE, STEP and LOSS, and what a STEP does to them. */
    private static final class Folk {
        final Rule meeting;
        final Rule deed;
        final int[] kind = new int[MOST_PEOPLE];
        final int[] m = new int[MOST_PEOPLE];
        final int[] at = new int[MOST_PEOPLE];
        final int[] free = new int[MOST_PEOPLE];
        final int[] gloved = new int[MOST_PEOPLE];
        final int[] deeds = new int[MOST_PEOPLE];
        private final int[] handed = new int[MOST_PEOPLE];
        private final int[] crowd = new int[STREETS];
        int size;
        int step;
        int loss;

        Folk(Rule meeting, Rule deed) {
            this.meeting = meeting;
            this.deed = deed;
            size = 0;
            step = 0;
            loss = 1;
        }

        void copy(Folk other) {
            System.arraycopy(other.kind, 0, kind, 0, MOST_PEOPLE);
            System.arraycopy(other.m, 0, m, 0, MOST_PEOPLE);
            System.arraycopy(other.at, 0, at, 0, MOST_PEOPLE);
            System.arraycopy(other.free, 0, free, 0, MOST_PEOPLE);
            System.arraycopy(other.gloved, 0, gloved, 0, MOST_PEOPLE);
            System.arraycopy(other.deeds, 0, deeds, 0, MOST_PEOPLE);
            size = other.size;
            step = other.step;
            loss = other.loss;
        }

        int join(int km, int street) {
            int who = size;
            size++;
            turnInto(who, km);
            at[who] = street;
            free[who] = 0;
            gloved[who] = 0;
            deeds[who] = 0;
            return who;
        }

        void turnInto(int who, int km) {
            kind[who] = km / 10;
            m[who] = km % 10;
        }

        int keepsOf(int who) {
            int own = isUnder(kind[who], ENVOY) ? 10 + m[who] : 0;
            return kind[who] == NUNCIO && step % 7 == 0 ? own + 20 : own;
        }

        /** Only the end is held: a BEGGAR halves, and a CHILD adds to, what may be below 0. */
        int handsOf(int who) {
            int less = free[who] - loss;
            switch (kind[who]) {
                case BEGGAR: return held(less / 2, 0, MOST_FREE);
                case JUDGE: return 0;
                case THIEF: return held(Math.min(less + m[who], free[who]), 0, MOST_FREE);
                case CHILD: return held(Math.min(less + m[who], free[who]) + 1, 0, MOST_FREE);
                default: return held(less, 0, MOST_FREE);
            }
        }

        int runsOf(int who) {
            switch (kind[who]) {
                case BEGGAR: return 2;
                case JUDGE: return 3;
                case THIEF: return 1 + m[who] % 2;
                case CHILD: return 0;
                default: return 1;
            }
        }

        int meets(int street, int hour, int many) {
            return meeting.isEmpty() ? 1 : held(meeting.gives(street, hour, many), 0, 1);
        }

        int deedsBy(int hoursFree, int number, int street) {
            if (deed.isEmpty()) {
                return hoursFree > 5 ? 1 : 0;
            }
            return held(deed.gives(hoursFree, number, street), 0, 9);
        }

        boolean canTouch(int one, int other) {
            return at[one] == at[other] && gloved[one] == 0 && gloved[other] == 0;
        }

        boolean handsOnAt(int street) {
            return meets(street, step % HOURS_OF_DAY, howManyAt(street)) != 0;
        }

        int whoAt(int street) {
            int set = 0;
            for (int who = 0; who < size; who++) {
                set |= at[who] == street ? 1 << who : 0;
            }
            return set;
        }

        int whoFreeAt(int street) {
            int set = 0;
            for (int who = 0; who < size; who++) {
                set |= at[who] == street && free[who] > 0 ? 1 << who : 0;
            }
            return set;
        }

        int whoWearGloves() {
            int set = 0;
            for (int who = 0; who < size; who++) {
                set |= gloved[who] != 0 ? 1 << who : 0;
            }
            return set;
        }

        int howManyAt(int street) {
            return Integer.bitCount(whoAt(street));
        }

        int howManyFree() {
            int many = 0;
            for (int who = 0; who < size; who++) {
                many += free[who] > 0 ? 1 : 0;
            }
            return many;
        }

        int freeTogether() {
            int sum = 0;
            for (int who = 0; who < size; who++) {
                sum += free[who];
            }
            return sum;
        }

        int deedsTogether() {
            int sum = 0;
            for (int who = 0; who < size; who++) {
                sum += deeds[who];
            }
            return sum;
        }

        void putGlovesOn(int set) {
            for (int who = 0; who < size; who++) {
                if ((set >> who & 1) == 1) {
                    gloved[who] = 1;
                }
            }
        }

        void leaveFreeOnly(int one) {
            for (int who = 0; who < size; who++) {
                if (who != one) {
                    free[who] = 0;
                }
            }
        }

        void pass(int n) {
            for (int i = 0; i < n; i++) {
                haveOwn();
                handOn();
                doDeeds();
                runOut();
                steal();
                step++;
            }
        }

        private void haveOwn() {
            for (int who = 0; who < size; who++) {
                free[who] = Math.max(free[who], keepsOf(who));
            }
        }

        /** What each hands on is worked out ahead of all, since FREE changes on the way. */
        private void handOn() {
            countCrowds();
            for (int who = 0; who < size; who++) {
                handed[who] = handsOf(who);
            }
            for (int street = 0; street < STREETS; street++) {
                int many = crowd[street];
                if (many > 1 && meets(street, step % HOURS_OF_DAY, many) != 0) {
                    handOnAt(street);
                }
            }
        }

        private void countCrowds() {
            for (int street = 0; street < STREETS; street++) {
                crowd[street] = 0;
            }
            for (int who = 0; who < size; who++) {
                if (isStreet(at[who])) {
                    crowd[at[who]]++;
                }
            }
        }

        private void handOnAt(int street) {
            for (int one = 0; one < size; one++) {
                for (int other = 0; at[one] == street && other < size; other++) {
                    if (one != other && canTouch(one, other)) {
                        free[one] = Math.max(free[one], handed[other]);
                    }
                }
            }
        }

        private void doDeeds() {
            for (int who = 0; who < size; who++) {
                if (free[who] > 0) {
                    int more = deedsBy(free[who], m[who], at[who]);
                    deeds[who] = Math.min(MOST_DEEDS, deeds[who] + more);
                }
            }
        }

        private void runOut() {
            for (int who = 0; who < size; who++) {
                free[who] = Math.max(0, free[who] - runsOf(who));
            }
        }

        private void steal() {
            for (int who = 0; who < size; who++) {
                if (gloved[who] == 0 && isUnder(kind[who], THIEF)) {
                    at[who] = (at[who] + m[who]) % STREETS;
                }
            }
        }
    }

    /** A TEXT, in the order in which it is worked out: numbers and names first, then the sign that joins them. */
    private static final class Rule {
        static final int NUMBER = 0;
        static final int FIRST_NAME = 1;
        static final int SECOND_NAME = 2;
        static final int THIRD_NAME = 3;

        /** One of the four above, or the sign itself. */
        private final int[] signs = new int[MOST_TAPE];
        private final int[] numbers = new int[MOST_TAPE];
        private final int[] pile = new int[MOST_TAPE];
        private int size;

        Rule() {
            size = 0;
        }

        boolean isEmpty() {
            return size == 0;
        }

        void clear() {
            size = 0;
        }

        void add(int sign, int number) {
            if (size < MOST_TAPE) {
                signs[size] = sign;
                numbers[size] = number;
                size++;
            }
        }

        void copy(Rule other) {
            System.arraycopy(other.signs, 0, signs, 0, MOST_TAPE);
            System.arraycopy(other.numbers, 0, numbers, 0, MOST_TAPE);
            size = other.size;
        }

        int gives(int a, int b, int c) {
            int high = 0;
            for (int i = 0; i < size; i++) {
                int sign = signs[i];
                if (sign <= THIRD_NAME) {
                    if (high < MOST_TAPE) {
                        pile[high] = single(sign, numbers[i], a, b, c);
                        high++;
                    }
                } else if (sign == '!') {
                    if (high >= 1) {
                        pile[high - 1] = pile[high - 1] == 0 ? 1 : 0;
                    }
                } else if (high >= 2) {
                    pile[high - 2] = joined(sign, pile[high - 2], pile[high - 1]);
                    high--;
                }
            }
            return high >= 1 ? pile[0] : 0;
        }

        private static int single(int sign, int number, int a, int b, int c) {
            switch (sign) {
                case FIRST_NAME: return a;
                case SECOND_NAME: return b;
                case THIRD_NAME: return c;
                default: return number;
            }
        }

        private static int joined(int sign, int one, int other) {
            switch (sign) {
                case '|': return one != 0 || other != 0 ? 1 : 0;
                case '&': return one != 0 && other != 0 ? 1 : 0;
                case '<': return one < other ? 1 : 0;
                case '=': return one == other ? 1 : 0;
                case '>': return one > other ? 1 : 0;
                case '+': return one + other;
                case '-': return one - other;
                case '*': return one * other;
                case '/': return other == 0 ? 0 : one / other;
                case '%': return other == 0 ? 0 : one % other;
                default: return 0;
            }
        }
    }

    /** Reads a TEXT; it never goes past a byte with which no TEXT goes on, so the place where it stops is the FAULT. */
    private static final class Reader {
        private static final char[] NAMES = {'s', 'h', 'n', 'f', 'm', 's'};
        private static final int NAMES_OF_USE = 3;
        private static final int MOST_OPEN = 5;
        private static final int MOST_DIGITS = 4;
        private static final int ENDED = -1;

        final Rule rule = new Rule();
        private final Shelf bytes = new Shelf(MOST_TAPE);
        private int firstName;
        private int place;

        Reader() {
            firstName = 0;
            place = 0;
        }

        /** The FAULT, or -1, and the rule is what was read. */
        int read(Shelf tape, int use) {
            bytes.copy(tape);
            rule.clear();
            firstName = use == 0 ? 0 : NAMES_OF_USE;
            place = 0;
            return readAny(0) && place == bytes.size ? -1 : place;
        }

        private int next() {
            return place < bytes.size ? bytes.items[place] : ENDED;
        }

        private boolean readAny(int open) {
            boolean fine = readAll(open);
            for (int i = 0; i < MOST_TAPE && fine && next() == '|'; i++) {
                place++;
                fine = readAll(open);
                rule.add('|', 0);
            }
            return fine;
        }

        private boolean readAll(int open) {
            boolean fine = readComparison(open);
            for (int i = 0; i < MOST_TAPE && fine && next() == '&'; i++) {
                place++;
                fine = readComparison(open);
                rule.add('&', 0);
            }
            return fine;
        }

        private boolean readComparison(int open) {
            boolean fine = readSum(open);
            int sign = next();
            if (fine && (sign == '<' || sign == '=' || sign == '>')) {
                place++;
                fine = readSum(open);
                rule.add(sign, 0);
            }
            return fine;
        }

        private boolean readSum(int open) {
            boolean fine = readProduct(open);
            for (int i = 0; i < MOST_TAPE && fine && (next() == '+' || next() == '-'); i++) {
                int sign = next();
                place++;
                fine = readProduct(open);
                rule.add(sign, 0);
            }
            return fine;
        }

        private boolean readProduct(int open) {
            boolean fine = readSingle(open);
            for (int i = 0; i < MOST_TAPE && fine && (next() == '*' || next() == '/' || next() == '%'); i++) {
                int sign = next();
                place++;
                fine = readSingle(open);
                rule.add(sign, 0);
            }
            return fine;
        }

        private boolean readSingle(int open) {
            int sign = next();
            if (sign == '!' || sign == '(') {
                return open < MOST_OPEN && readOpened(sign, open + 1);
            }
            return isDigit(sign) ? readNumber() : readName(sign);
        }

        private boolean readOpened(int sign, int open) {
            place++;
            if (sign == '!') {
                boolean fine = readSingle(open);
                rule.add('!', 0);
                return fine;
            }
            if (!readAny(open) || next() != ')') {
                return false;
            }
            place++;
            return true;
        }

        private boolean readNumber() {
            int number = 0;
            for (int i = 0; i < MOST_DIGITS && isDigit(next()); i++) {
                number = number * 10 + next() - '0';
                place++;
            }
            rule.add(Rule.NUMBER, number);
            return true;
        }

        private boolean readName(int sign) {
            for (int i = 0; i < NAMES_OF_USE; i++) {
                if (sign == NAMES[firstName + i]) {
                    place++;
                    rule.add(Rule.FIRST_NAME + i, 0);
                    return true;
                }
            }
            return false;
        }

        private static boolean isDigit(int sign) {
            return sign >= '0' && sign <= '9';
        }
    }

    /** VOICES of one, and THE TRACE of the latest. */
    private static final class Voices {
        static final int ACTS = 4;
        private static final int KEEPS = 0;
        private static final int HANDS = 1;
        private static final int STEALS = 2;
        private static final int TELLS = 3;
        /** By KIND and act; 0: the KIND has none of its own. */
        private static final int[] BODIES = {
            10, 11, 12, 13,
            20, 0, 0, 0,
            0, 30, 0, 0,
            0, 0, 40, 0,
            0, 0, 0, 50,
            0, 60, 0, 0,
            0, 0, 70, 71,
        };
        /** Far more than any VOICE goes through. */
        private static final int DEEPEST = 40;

        final Shelf begun = new Shelf(MOST_TRACE);
        private int kind;
        private int number;
        private int m;

        Voices() {
            kind = SOUL;
            number = 0;
            m = 0;
        }

        int speak(int itsKind, int itsNumber, int itsM, int act, int x) {
            begun.clear();
            kind = itsKind;
            number = itsNumber;
            m = itsM;
            return own(act, x, 0);
        }

        private int own(int act, int x, int depth) {
            return of(kind, act, x, depth);
        }

        /** The act by the BODY of a KIND, or of the next KIND above that has one. */
        private int of(int first, int act, int x, int depth) {
            int body = bodyOf(first, act);
            if (depth >= DEEPEST || body == 0) {
                return 0;
            }
            begun.add(body);
            return work(body, x, depth + 1);
        }

        private static int bodyOf(int first, int act) {
            int next = first;
            for (int i = 0; i < KIND_LEVELS && within(next, 0, KINDS - 1) && within(act, 0, ACTS - 1); i++) {
                if (BODIES[next * ACTS + act] != 0) {
                    return BODIES[next * ACTS + act];
                }
                next = KIND_ABOVE[next];
            }
            return 0;
        }

        private int work(int body, int x, int depth) {
            switch (body) {
                case 10: return x + number;
                case 11: return own(KEEPS, x, depth) * 2;
                case 12: return x - m;
                case 13: return own(HANDS, x, depth) ^ own(STEALS, x, depth);
                case 20: return of(SOUL, KEEPS, x, depth) * 3;
                case 30: return of(SOUL, HANDS, x, depth) - own(STEALS, 1, depth);
                case 40: return -of(SOUL, STEALS, x, depth);
                case 50: return of(ENVOY, TELLS, x, depth) - own(KEEPS, 2, depth);
                case 60: return of(BEGGAR, HANDS, x + 1, depth);
                case 70: return of(THIEF, STEALS, x, depth) ^ number;
                case 71: return own(HANDS, x, depth) - of(THIEF, TELLS, x, depth);
                default: return 0;
            }
        }
    }

    /** A SHEET; of 0 bits it is missing. */
    private static final class Row {
        final int[] numbers = new int[MOST_NUMBERS];
        int bits;
        int size;

        Row() {
            bits = 0;
            size = 0;
        }

        void lay(int itsBits, int itsSize) {
            bits = itsBits;
            size = held(itsSize, 0, MOST_NUMBERS);
            for (int i = 0; i < size; i++) {
                numbers[i] = 0;
            }
        }

        boolean isMissing() {
            return bits == 0;
        }

        int lowestBits(int v) {
            return bits == 8 ? v & 255 : bits == 16 ? v & 65535 : v;
        }

        boolean holds(int i, int n) {
            return n >= 0 && i >= 0 && n <= size && i <= size - n;
        }
    }

    /** A row of numbers with an end that grows, up to a most. */
    private static final class Shelf {
        final int[] items;
        int size;

        Shelf(int most) {
            items = new int[Math.max(0, most)];
            size = 0;
        }

        void add(int v) {
            if (size < items.length) {
                items[size] = v;
                size++;
            }
        }

        void clear() {
            size = 0;
        }

        void copy(Shelf other) {
            size = Math.min(items.length, other.size);
            System.arraycopy(other.items, 0, items, 0, size);
        }
    }
}
