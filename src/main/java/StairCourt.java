import java.util.Arrays;

/**
 * The staircase court: a judge on each step, people who climb by the words that content the judges.
 * What every call does is promised in shared/DOC.md; words in capitals are that document's terms.
 */
public final class StairCourt {
    private static final int LOW = -1000000000;
    private static final int BEYOND = LOW - 1;
    private static final int NONE = LOW - 2;
    private static final int STATE = LOW - 3;
    private static final int FULL = LOW - 4;
    private static final int KIND = LOW - 5;
    private static final int PARTED = LOW - 6;
    private static final int ERRORS = 6;

    private static final int JUDGE = 0;
    private static final int STRICT = 1;
    private static final int MILD = 2;
    private static final int SAME = 3;
    private static final int DEAF = 4;
    private static final int CHILD = 5;
    private static final int MUTE = 6;
    private static final int KINDS = 7;
    /** The KIND above each KIND; above JUDGE there is none, so he stands for himself. */
    private static final int[] ABOVE = {JUDGE, JUDGE, JUDGE, JUDGE, STRICT, MILD, JUDGE};

    private static final int ASKS = 0;
    private static final int NODS = 1;
    private static final int ECHOES = 2;
    private static final int PARTS = 3;
    private static final int VOICES = 4;
    /** The BODY that each KIND has of its own for each VOICE, a line a KIND; 0 where it has none. */
    private static final int[] BODIES = {
        10, 11, 12, 13,
        20, 0, 0, 21,
        0, 30, 0, 0,
        0, 0, 40, 0,
        50, 0, 51, 0,
        0, 60, 0, 0,
        70, 71, 0, 0,
    };
    private static final int MOST_TRACED = 30;
    /** Far more than the BODIES can call one another: the longest VOICE begins six. */
    private static final int DEEPEST_BODY = 30;

    private static final int MOST_STEPS = 20;
    private static final int MOST_PEOPLE = 5;
    private static final int MOST_KM = 69;
    private static final int MOST_HEARD = 9999;
    private static final int MOST_LEGS = 999;
    private static final int MOST_PAID = 99999;
    private static final int MOST_FALLS = 9999;
    private static final int LAST_HOUR = 9999;
    private static final int MOST_HOURS = 48;
    private static final int MOST_LOOSE = 30;
    private static final int WORDS = 100;
    private static final int MOST_FEWEST = 3;
    private static final int MOST_ODDS = 4;
    private static final int MOST_WAITING = 24;
    private static final int SHEETS = 4;
    private static final int MOST_NUMBERS = 24;

    private static final int MOST_TAPE = 60;
    private static final int MOST_OPEN = 5;
    private static final int MOST_DIGITS = 4;
    private static final int HEEDS = 0;
    private static final int BRIBE = 1;
    private static final String HEEDS_NAMES = "wsm";
    private static final String BRIBE_NAMES = "bsk";
    private static final int MOST_HEEDS = 1;
    private static final int MOST_BRIBE = 99;
    /** In a TEXT's codes a sign is this and its byte: above every NUMBER, which has four digits at most. */
    private static final int SIGN = 10000;
    private static final int COMPARING = 2;
    private static final int LEVELS = 5;

    private final Court now = new Court();
    private final Court kept = new Court();
    private final Court thought = new Court();
    private final Reader reader = new Reader(now.tape);
    private final Voices voices = new Voices();
    private final Cover cover = new Cover();
    private final Sheet[] sheets = new Sheet[SHEETS];
    private final int[] errors = new int[ERRORS + 1];
    private int images = 0;

    public StairCourt() {
        for (int i = 0; i < sheets.length; i++) {
            sheets[i] = new Sheet();
        }
    }

    // ---- judges, people

    public int step(int km) {
        if (!within(km, 0, MOST_KM)) {
            return error(BEYOND);
        }
        if (now.steps >= MOST_STEPS) {
            return error(FULL);
        }
        return now.addStep(km / 10, km % 10);
    }

    public int stepIs(int step, int what) {
        Judge judge = now.judgeOn(step);
        if (judge == null || !within(what, 0, 3)) {
            return error(BEYOND);
        }
        switch (what) {
            case 0: return judge.kind;
            case 1: return judge.m;
            case 2: return judge.heard;
            default: return now.bribeOf(judge);
        }
    }

    public int become(int step, int km) {
        Judge judge = now.judgeOn(step);
        if (judge == null || !within(km, 0, MOST_KM)) {
            return error(BEYOND);
        }
        int was = judge.kind;
        judge.kind = km / 10;
        judge.m = km % 10;
        return was;
    }

    public int as(int step, int kind) {
        Judge judge = now.judgeOn(step);
        if (judge == null || !within(kind, 0, KINDS - 1)) {
            return error(BEYOND);
        }
        return isUnder(judge.kind, kind) ? judge.m : error(KIND);
    }

    public int person(int legs) {
        if (!within(legs, 0, MOST_LEGS)) {
            return error(BEYOND);
        }
        if (now.people >= MOST_PEOPLE) {
            return error(FULL);
        }
        return now.addPerson(legs);
    }

    public int personIs(int person, int what) {
        Person one = now.personOf(person);
        if (one == null || !within(what, 0, 4)) {
            return error(BEYOND);
        }
        switch (what) {
            case 0: return one.at;
            case 1: return one.legs;
            case 2: return one.paid;
            case 3: return one.falls;
            default: return now.isUp(one) ? 1 : 0;
        }
    }

    public int rests(int person, int legs) {
        Person one = now.personOf(person);
        if (one == null || !within(legs, 0, MOST_LEGS)) {
            return error(BEYOND);
        }
        int were = one.legs;
        one.legs = legs;
        return were;
    }

    public int carry(int person, int step) {
        Person one = now.personOf(person);
        if (one == null || !within(step, 0, now.steps)) {
            return error(BEYOND);
        }
        int was = one.at;
        one.at = step;
        return was;
    }

    public int content(int step, int word) {
        Judge judge = now.judgeOn(step);
        if (judge == null || !isWord(word)) {
            return error(BEYOND);
        }
        return now.isContent(judge, word) ? 1 : 0;
    }

    public int say(int person, int word) {
        Person one = now.personOf(person);
        if (one == null || !isWord(word)) {
            return error(BEYOND);
        }
        if (!now.canGo(one)) {
            return error(STATE);
        }
        now.hear(one, word);
        return one.at;
    }

    public int bribe(int person) {
        Person one = now.personOf(person);
        if (one == null) {
            return error(BEYOND);
        }
        Judge judge = now.judgeOn(one.at);
        if (judge == null || !now.canGo(one)) {
            return error(STATE);
        }
        int given = now.bribeOf(judge);
        one.paid = Math.min(MOST_PAID, one.paid + given);
        one.legs--;
        one.at++;
        return given;
    }

    // ---- texts

    public int feed(long word, int n) {
        if (!within(n, 1, 8)) {
            return error(BEYOND);
        }
        if (now.taped > MOST_TAPE - n) {
            return error(FULL);
        }
        for (int i = 0; i < n && now.taped < now.tape.length; i++) {
            now.tape[now.taped] = (int) (word >>> (8 * i)) & 255;
            now.taped++;
        }
        return now.taped;
    }

    public int text(int use) {
        Text text = now.textOf(use);
        if (text == null) {
            return error(BEYOND);
        }
        boolean right = reader.read(now.taped, use == HEEDS ? HEEDS_NAMES : BRIBE_NAMES);
        now.taped = 0;
        if (!right) {
            return -10 - reader.at;
        }
        text.copyFrom(reader.draft);
        return 1;
    }

    public int untell(int use) {
        Text text = now.textOf(use);
        if (text == null) {
            return error(BEYOND);
        }
        int was = text.isThere() ? 1 : 0;
        text.clear();
        return was;
    }

    public int law(int use, int a, int b, int c) {
        if (!within(use, HEEDS, BRIBE)) {
            return error(BEYOND);
        }
        return now.gives(use, a, b, c);
    }

    // ---- hours

    public int hours(int n) {
        if (!within(n, 1, MOST_HOURS)) {
            return error(BEYOND);
        }
        if (now.hour > LAST_HOUR - n) {
            return error(STATE);
        }
        for (int i = 0; i < n; i++) {
            now.passHour();
        }
        return now.hour;
    }

    public int loose(int n) {
        if (!within(n, 1, MOST_LOOSE)) {
            return error(BEYOND);
        }
        if (now.hour > LAST_HOUR - n) {
            return error(STATE);
        }
        int fell = 0;
        for (int i = 0; i < n; i++) {
            fell += now.passHourByDraws();
        }
        return fell;
    }

    public int seed(int v) {
        int was = now.z;
        now.z = v;
        return was;
    }

    // ---- what would be

    public int words(int step, int what) {
        Judge judge = now.judgeOn(step);
        if (judge == null || !within(what, 0, 1)) {
            return error(BEYOND);
        }
        if (what == 0) {
            return now.contentWords(judge);
        }
        int least = now.leastContent(judge);
        return least < 0 ? error(NONE) : least;
    }

    public int climb(int person, int sheet, int what) {
        thought.copyFrom(now);
        Person one = thought.personOf(person);
        Sheet row = sheetOf(sheet);
        if (one == null || row == null || !within(what, 0, 2)) {
            return error(BEYOND);
        }
        if (row.isMissing()) {
            return error(NONE);
        }
        if (!row.holdsWordsAlone()) {
            return error(STATE);
        }
        int said = 0;
        // Counted apart from FALLS, which are held.
        int fell = 0;
        while (said < row.length && thought.canGo(one)) {
            if (!thought.hear(one, row.get(said))) {
                fell++;
            }
            said++;
        }
        switch (what) {
            case 0: return one.at;
            case 1: return said;
            default: return fell;
        }
    }

    public int fewest(int person, int what) {
        Person one = now.personOf(person);
        if (one == null || !within(what, -1, MOST_FEWEST - 1)) {
            return error(BEYOND);
        }
        int many = cover.find(now, one.at);
        if (many < 0) {
            return error(NONE);
        }
        return what == -1 ? many : cover.wordAt(what);
    }

    public int cheapest(int person, int sheet, int what) {
        Person one = now.personOf(person);
        Sheet row = sheetOf(sheet);
        if (one == null || row == null || !within(what, 0, 1)) {
            return error(BEYOND);
        }
        if (row.isMissing()) {
            return error(NONE);
        }
        int sum = 0;
        int whose = 0;
        for (int i = one.at; i < now.steps; i++) {
            Judge judge = now.judgeOn(i);
            if (judge != null && !isContentByAny(judge, row)) {
                sum += now.bribeOf(judge);
                whose |= 1 << i;
            }
        }
        return what == 0 ? sum : whose;
    }

    public long odds(int person, int n, int part) {
        Person one = now.personOf(person);
        if (one == null || !within(n, 0, MOST_ODDS) || !within(part, 0, 1)) {
            return error(BEYOND);
        }
        long above = 1;
        long below = 1;
        for (int i = 0; i < n; i++) {
            Judge judge = now.judgeOn(one.at + i);
            if (judge != null) {
                above *= now.contentWords(judge);
                below *= WORDS;
            }
        }
        long shared = sharedDivisor(below, above);
        long asked = part == 0 ? above : below;
        return shared > 1 ? asked / shared : asked;
    }

    public int fits(int sheet, int what) {
        Sheet row = sheetOf(sheet);
        if (row == null || !within(what, 0, 1)) {
            return error(BEYOND);
        }
        if (row.isMissing()) {
            return error(NONE);
        }
        int many = 0;
        int least = -1;
        for (int word = WORDS - 1; word >= 0; word--) {
            if (isToldBy(row, word)) {
                many++;
                least = word;
            }
        }
        if (what == 0) {
            return many;
        }
        return many == 0 ? error(NONE) : least;
    }

    // ---- voices, sheets, images, what is told

    public int voice(int step, int voice, int x) {
        Judge judge = now.judgeOn(step);
        if (judge == null || !within(voice, 0, VOICES - 1)) {
            return error(BEYOND);
        }
        int answer = voices.sound(judge, voice, x);
        return voices.parted ? error(PARTED) : answer;
    }

    public int body(int i) {
        return within(i, 0, voices.traced - 1) ? voices.bodyAt(i) : error(NONE);
    }

    public int sheet(int sheet, int bits, int n) {
        Sheet row = sheetOf(sheet);
        if (row == null || bits != 0 && bits != 8 && bits != 16 && bits != 32) {
            return error(BEYOND);
        }
        if (bits == 0) {
            row.renew(0, 0);
            return 1;
        }
        if (n < 0) {
            return error(STATE);
        }
        if (n > MOST_NUMBERS) {
            return error(BEYOND);
        }
        row.renew(bits, n);
        return 1;
    }

    public int put(int sheet, int i, int v) {
        Sheet row = sheetOf(sheet);
        if (row == null) {
            return error(BEYOND);
        }
        if (row.isMissing()) {
            return error(NONE);
        }
        if (!within(i, 0, row.length - 1)) {
            return error(BEYOND);
        }
        row.set(i, v);
        return 1;
    }

    public int move(int sheet, int i, int other, int j, int n) {
        Sheet from = sheetOf(sheet);
        Sheet to = sheetOf(other);
        if (from == null || to == null) {
            return error(BEYOND);
        }
        if (from.isMissing() || to.isMissing()) {
            return error(NONE);
        }
        if (from.bits != to.bits) {
            return error(KIND);
        }
        if (!from.holds(i, n) || !to.holds(j, n)) {
            return error(BEYOND);
        }
        System.arraycopy(from.numbers, i, to.numbers, j, n);
        return n;
    }

    public int carries(int sheet) {
        Sheet row = sheetOf(sheet);
        if (row == null) {
            return error(BEYOND);
        }
        if (row.isMissing()) {
            return error(NONE);
        }
        for (int i = 0; i < row.length; i++) {
            Person one = now.personOf(i);
            if (one == null || !within(row.get(i), 0, now.steps)) {
                return i;
            }
            one.at = row.get(i);
        }
        return row.length;
    }

    public int judge(int sheet) {
        Sheet row = sheetOf(sheet);
        if (row == null) {
            return error(BEYOND);
        }
        if (row.isMissing()) {
            return error(NONE);
        }
        for (int i = 0; i < row.length; i++) {
            Person one = now.personOf(i);
            if (one == null || one.at != row.get(i)) {
                return i;
            }
        }
        return row.length;
    }

    public int image() {
        kept.copyFrom(now);
        images++;
        return images;
    }

    public int restore() {
        if (images == 0) {
            return error(NONE);
        }
        now.copyFrom(kept);
        return now.hour;
    }

    public int tell(int v) {
        if (now.waiting >= MOST_WAITING || now.waiting >= now.waits.length) {
            return error(FULL);
        }
        now.waits[now.waiting] = v;
        now.waiting++;
        return now.waiting;
    }

    public int check() {
        int many = Math.min(now.waiting, now.waits.length);
        now.waiting = 0;
        for (int i = 0; i < many; i++) {
            Person one = now.personOf(i);
            if (one == null || one.legs != now.waits[i]) {
                return 1 + i;
            }
        }
        return 0;
    }

    public int count(int what) {
        switch (what) {
            case 0: return now.steps;
            case 1: return now.people;
            case 2: return now.hour;
            case 3: return now.taped;
            case 4: return now.waiting;
            case 5: return voices.traced;
            case 6: return now.z;
            default: return error(BEYOND);
        }
    }

    public int told(int k) {
        return within(k, 1, ERRORS) ? errors[k] : error(BEYOND);
    }

    // ---- what the calls share

    private static boolean within(int value, int low, int high) {
        return value >= low && value <= high;
    }

    private static boolean isWord(int number) {
        return within(number, 0, WORDS - 1);
    }

    private int error(int answer) {
        int k = LOW - answer;
        if (within(k, 1, ERRORS)) {
            errors[k]++;
        }
        return answer;
    }

    private Sheet sheetOf(int sheet) {
        return sheet >= 0 && sheet < sheets.length ? sheets[sheet] : null;
    }

    private static int kindAbove(int kind) {
        return kind >= 0 && kind < ABOVE.length ? ABOVE[kind] : JUDGE;
    }

    private static boolean isUnder(int kind, int other) {
        int above = kind;
        for (int i = 0; i < KINDS && above != other; i++) {
            above = kindAbove(above);
        }
        return above == other;
    }

    private boolean isContentByAny(Judge judge, Sheet row) {
        for (int i = 0; i < row.length; i++) {
            if (isWord(row.get(i)) && now.isContent(judge, row.get(i))) {
                return true;
            }
        }
        return false;
    }

    /** Whether a SHEET tells of one WORD what is so; what it tells of a judge who isn't there is never so. */
    private boolean isToldBy(Sheet row, int word) {
        for (int i = 0; i < row.length; i++) {
            Judge judge = now.judgeOn(i);
            if (judge == null || row.get(i) != (now.isContent(judge, word) ? 1 : 0)) {
                return false;
            }
        }
        return true;
    }

    private static long sharedDivisor(long a, long b) {
        long large = a;
        long small = b;
        // Each second turn halves the larger at least: a long has no more than 64 halves.
        for (int i = 0; i < 128 && small != 0; i++) {
            long rest = large % small;
            large = small;
            small = rest;
        }
        return large;
    }

    /** A judge; his place is the number of the STEP that he stands on. */
    private static final class Judge {
        final int place;
        int kind = JUDGE;
        int m = 0;
        int heard = 0;

        Judge(int place) {
            this.place = place;
        }

        void copyFrom(Judge other) {
            kind = other.kind;
            m = other.m;
            heard = other.heard;
        }

        boolean nods(int word, int hour) {
            switch (kind) {
                case STRICT: return nodsStrictly(word);
                case MILD: return nodsMildly(word);
                case SAME: return word == 7 * m;
                case DEAF: return nodsStrictly(word) && hour % 24 >= 12;
                case CHILD: return nodsMildly(word) && word < 90 - place;
                case MUTE: return nodsPlainly(word) && heard % 2 == 0;
                default: return nodsPlainly(word);
            }
        }

        private boolean nodsPlainly(int word) {
            return word >= 5 * m;
        }

        private boolean nodsStrictly(int word) {
            return nodsPlainly(word) && word % 3 == m % 3;
        }

        private boolean nodsMildly(int word) {
            return nodsPlainly(word) || word % 10 == m;
        }

        int wants() {
            int plainly = 10 + heard % 10;
            switch (kind) {
                case STRICT: return plainly + m;
                case MILD: return plainly / 2;
                case SAME: return plainly * 2;
                case DEAF: return plainly + m + place;
                case CHILD: return plainly / 2 - 1;
                case MUTE: return 0;
                default: return plainly;
            }
        }
    }

    private static final class Person {
        int at = 0;
        int legs = 0;
        int paid = 0;
        int falls = 0;

        void copyFrom(Person other) {
            at = other.at;
            legs = other.legs;
            paid = other.paid;
            falls = other.falls;
        }
    }

    /** All that an IMAGE keeps. */
    private static final class Court {
        final Judge[] judges = new Judge[MOST_STEPS];
        int steps = 0;
        final Person[] persons = new Person[MOST_PEOPLE];
        int people = 0;
        final Text heeds = new Text();
        final Text bribes = new Text();
        final int[] tape = new int[MOST_TAPE];
        int taped = 0;
        final int[] waits = new int[MOST_WAITING];
        int waiting = 0;
        int hour = 0;
        int z = 1;

        Court() {
            for (int i = 0; i < judges.length; i++) {
                judges[i] = new Judge(i);
            }
            for (int i = 0; i < persons.length; i++) {
                persons[i] = new Person();
            }
        }

        void copyFrom(Court other) {
            steps = other.steps;
            for (int i = 0; i < judges.length && i < other.judges.length; i++) {
                judges[i].copyFrom(other.judges[i]);
            }
            people = other.people;
            for (int i = 0; i < persons.length && i < other.persons.length; i++) {
                persons[i].copyFrom(other.persons[i]);
            }
            heeds.copyFrom(other.heeds);
            bribes.copyFrom(other.bribes);
            System.arraycopy(other.tape, 0, tape, 0, MOST_TAPE);
            taped = other.taped;
            System.arraycopy(other.waits, 0, waits, 0, MOST_WAITING);
            waiting = other.waiting;
            hour = other.hour;
            z = other.z;
        }

        /** Null where there is no such STEP. */
        Judge judgeOn(int step) {
            return step >= 0 && step < steps && step < judges.length ? judges[step] : null;
        }

        /** Null where there is nobody. */
        Person personOf(int person) {
            return person >= 0 && person < people && person < persons.length ? persons[person] : null;
        }

        /** Null where there is no such USE. */
        Text textOf(int use) {
            if (use == HEEDS) {
                return heeds;
            }
            return use == BRIBE ? bribes : null;
        }

        int addStep(int kind, int m) {
            int place = steps;
            if (place >= 0 && place < judges.length) {
                Judge judge = judges[place];
                judge.kind = kind;
                judge.m = m;
                judge.heard = 0;
                steps++;
            }
            return place;
        }

        int addPerson(int legs) {
            int number = people;
            if (number >= 0 && number < persons.length) {
                Person one = persons[number];
                one.at = 0;
                one.legs = legs;
                one.paid = 0;
                one.falls = 0;
                people++;
            }
            return number;
        }

        boolean isUp(Person one) {
            return one.at >= steps;
        }

        boolean canGo(Person one) {
            return !isUp(one) && one.legs > 0;
        }

        int gives(int use, int a, int b, int c) {
            if (use == HEEDS) {
                return hold(heeds.isThere() ? heeds.work(a, b, c) : 1, MOST_HEEDS);
            }
            return hold(bribes.isThere() ? bribes.work(a, b, c) : a, MOST_BRIBE);
        }

        private static int hold(int value, int most) {
            return Math.max(0, Math.min(most, value));
        }

        boolean isContent(Judge judge, int word) {
            return judge.nods(word, hour) && gives(HEEDS, word, judge.place, judge.m) == 1;
        }

        int bribeOf(Judge judge) {
            return gives(BRIBE, judge.wants(), judge.place, judge.kind);
        }

        int contentWords(Judge judge) {
            int many = 0;
            for (int word = 0; word < WORDS; word++) {
                if (isContent(judge, word)) {
                    many++;
                }
            }
            return many;
        }

        /** The least WORD that contents a judge; -1 where there is none. */
        int leastContent(Judge judge) {
            for (int word = 0; word < WORDS; word++) {
                if (isContent(judge, word)) {
                    return word;
                }
            }
            return -1;
        }

        /** One who CAN GO SAYS a WORD: whether the judge was CONTENT. */
        boolean hear(Person one, int word) {
            Judge judge = judgeOn(one.at);
            // HEARD counts this WORD too, but whether he is CONTENT is as ahead of it.
            boolean content = judge != null && isContent(judge, word);
            if (judge != null) {
                judge.heard = Math.min(MOST_HEARD, judge.heard + 1);
            }
            one.legs--;
            if (content) {
                one.at++;
            } else {
                one.at = Math.max(0, one.at - 2);
                one.falls = Math.min(MOST_FALLS, one.falls + 1);
            }
            return content;
        }

        void passHour() {
            for (int i = 0; i < people && i < persons.length; i++) {
                Person one = persons[i];
                if (one.at % 5 == 0) {
                    one.legs = Math.min(MOST_LEGS, one.legs + 1);
                }
            }
            hour++;
        }

        /** How many fell in it. */
        int passHourByDraws() {
            int fell = 0;
            for (int i = 0; i < people && i < persons.length; i++) {
                Person one = persons[i];
                if (canGo(one) && !hear(one, draw() % WORDS)) {
                    fell++;
                }
            }
            passHour();
            return fell;
        }

        private int draw() {
            z = z * 1103515245 + 12345;
            return z >>> 8;
        }
    }

    /**
     * A TEXT as codes in the order in which they are worked out: a NUMBER as it is, a NAME as -1 less
     * its place among the USE's NAMES, a sign as SIGN and its byte. Without codes there is no TEXT.
     */
    private static final class Text {
        private final int[] codes = new int[MOST_TAPE];
        private final int[] open = new int[MOST_TAPE];
        private int length = 0;

        boolean isThere() {
            return length > 0;
        }

        void clear() {
            length = 0;
        }

        void copyFrom(Text other) {
            System.arraycopy(other.codes, 0, codes, 0, MOST_TAPE);
            length = other.length;
        }

        void add(int code) {
            if (length >= 0 && length < codes.length) {
                codes[length] = code;
                length++;
            }
        }

        int work(int a, int b, int c) {
            int top = 0;
            for (int i = 0; i < length && i < codes.length; i++) {
                int code = codes[i];
                if (code < SIGN && top < open.length) {
                    open[top] = code >= 0 ? code : nameAt(-1 - code, a, b, c);
                    top++;
                } else if (code == SIGN + '!' && top >= 1) {
                    open[top - 1] = open[top - 1] == 0 ? 1 : 0;
                } else if (top >= 2) {
                    open[top - 2] = join(code - SIGN, open[top - 2], open[top - 1]);
                    top--;
                }
            }
            return open[0];
        }

        private static int nameAt(int place, int a, int b, int c) {
            switch (place) {
                case 0: return a;
                case 1: return b;
                default: return c;
            }
        }

        private static int join(int sign, int left, int right) {
            switch (sign) {
                case '|': return left != 0 || right != 0 ? 1 : 0;
                case '&': return left != 0 && right != 0 ? 1 : 0;
                case '<': return left < right ? 1 : 0;
                case '=': return left == right ? 1 : 0;
                case '>': return left > right ? 1 : 0;
                case '+': return left + right;
                case '-': return left - right;
                case '*': return left * right;
                case '/': return right == 0 ? 0 : left / right;
                default: return right == 0 ? 0 : left % right;
            }
        }
    }

    /**
     * Reads THE TAPE. Each byte is passed as soon as some TEXT goes on with it, and no other is passed,
     * so where the reading stops is the FAULT.
     */
    private static final class Reader {
        final Text draft = new Text();
        int at = 0;
        private final int[] tape;
        private int length = 0;
        private String names = HEEDS_NAMES;

        Reader(int[] tape) {
            this.tape = tape;
        }

        /** Whether THE TAPE is a TEXT, which the draft is then; else the FAULT stands in at. */
        boolean read(int taped, String namesOfUse) {
            draft.clear();
            at = 0;
            length = Math.min(taped, tape.length);
            names = namesOfUse;
            return readLevel(0, 0) && at >= length;
        }

        private int next() {
            return at >= 0 && at < length && at < tape.length ? tape[at] : -1;
        }

        /** The levels are T, A, B, S, P and, as the last, Q; open tells how many of ! and ( are open. */
        private boolean readLevel(int level, int open) {
            if (level >= LEVELS) {
                return readLast(open);
            }
            if (!readLevel(level + 1, open)) {
                return false;
            }
            boolean more = true;
            for (int i = 0; i < MOST_TAPE && more && levelOf(next()) == level; i++) {
                int sign = next();
                at++;
                if (!readLevel(level + 1, open)) {
                    return false;
                }
                draft.add(SIGN + sign);
                more = level != COMPARING;
            }
            return true;
        }

        private static int levelOf(int sign) {
            switch (sign) {
                case '|': return 0;
                case '&': return 1;
                case '<': case '=': case '>': return COMPARING;
                case '+': case '-': return 3;
                case '*': case '/': case '%': return 4;
                default: return -1;
            }
        }

        private boolean readLast(int open) {
            int sign = next();
            if (isDigit(sign)) {
                readNumber();
                return true;
            }
            int name = sign < 0 ? -1 : names.indexOf((char) sign);
            if (name >= 0) {
                at++;
                draft.add(-1 - name);
                return true;
            }
            if (open >= MOST_OPEN) {
                return false;
            }
            if (sign == '!') {
                return readNot(open + 1);
            }
            return sign == '(' && readInner(open + 1);
        }

        private static boolean isDigit(int sign) {
            return sign >= '0' && sign <= '9';
        }

        private void readNumber() {
            int number = 0;
            for (int i = 0; i < MOST_DIGITS && isDigit(next()); i++) {
                number = 10 * number + next() - '0';
                at++;
            }
            draft.add(number);
        }

        private boolean readNot(int open) {
            at++;
            if (!readLevel(LEVELS, open)) {
                return false;
            }
            draft.add(SIGN + '!');
            return true;
        }

        private boolean readInner(int open) {
            at++;
            if (!readLevel(0, open) || next() != ')') {
                return false;
            }
            at++;
            return true;
        }
    }

    /** The VOICES of one judge at a time, and THE TRACE of the latest. */
    private static final class Voices {
        int traced = 0;
        /** Whether the latest VOICE PARTED; what it gave else counts for nothing then. */
        boolean parted = false;
        private final int[] trace = new int[MOST_TRACED];
        private int kind = JUDGE;
        private int m = 0;
        private int place = 0;

        int sound(Judge judge, int voice, int x) {
            traced = 0;
            parted = false;
            kind = judge.kind;
            m = judge.m;
            place = judge.place;
            return own(voice, x, 0);
        }

        int bodyAt(int i) {
            return i >= 0 && i < traced && i < trace.length ? trace[i] : 0;
        }

        private int own(int voice, int x, int depth) {
            return begin(bodyFrom(kind, voice), x, depth + 1);
        }

        /** What super gives in a BODY, whose tens are 1 more than its KIND. */
        private int above(int body, int voice, int x, int depth) {
            return begin(bodyFrom(kindAbove(body / 10 - 1), voice), x, depth + 1);
        }

        private static int bodyFrom(int kind, int voice) {
            int level = kind;
            for (int i = 0; i < KINDS && bodyOf(level, voice) == 0; i++) {
                level = kindAbove(level);
            }
            return bodyOf(level, voice);
        }

        private static int bodyOf(int kind, int voice) {
            int place = kind * VOICES + voice;
            return place >= 0 && place < BODIES.length ? BODIES[place] : 0;
        }

        private int begin(int body, int x, int depth) {
            // PARTED is all that voice() answers: behind it no BODY begins any more.
            if (parted || depth > DEEPEST_BODY) {
                return 0;
            }
            note(body);
            switch (body) {
                case 10: return x + place;
                case 11: return own(ASKS, x, depth) * 2;
                case 12: return own(NODS, x, depth) - m;
                case 13: return part(x);
                case 20: return above(body, ASKS, x, depth) - 4;
                case 21: return above(body, PARTS, x, depth) + own(NODS, 1, depth);
                case 30: return 0 - above(body, NODS, x, depth);
                case 40: return above(body, ECHOES, x / 2, depth);
                case 50: return above(body, ASKS, x, depth) * 3;
                case 51: return above(body, ECHOES, x, depth) ^ place;
                case 60: return above(body, NODS, x + 1, depth);
                case 70: return 9;
                case 71: return above(body, NODS, x, depth) + m;
                default: return 0;
            }
        }

        private int part(int x) {
            int by = m - place;
            if (by == 0) {
                parted = true;
                return 0;
            }
            return x / by;
        }

        private void note(int body) {
            if (traced >= 0 && traced < trace.length) {
                trace[traced] = body;
                traced++;
            }
        }
    }

    /** FEWEST: the first of the smallest sets of WORDS with which every judge from a STEP on is CONTENT. */
    private static final class Cover {
        private final int[] judgesBy = new int[WORDS];
        private final int[] judgesFrom = new int[WORDS];
        private final int[] chosen = new int[MOST_FEWEST];
        private int all = 0;

        /** How many WORDS; -1 where three don't do. */
        int find(Court court, int from) {
            Arrays.fill(chosen, -1);
            all = 0;
            for (int i = Math.max(0, from); i < court.steps; i++) {
                all |= 1 << i;
            }
            int later = 0;
            for (int word = WORDS - 1; word >= 0; word--) {
                judgesBy[word] = contentFrom(court, from, word);
                later |= judgesBy[word];
                judgesFrom[word] = later;
            }
            for (int size = 0; size <= MOST_FEWEST; size++) {
                if (choose(0, size, 0, 0)) {
                    return size;
                }
            }
            return -1;
        }

        int wordAt(int i) {
            return i >= 0 && i < chosen.length ? chosen[i] : -1;
        }

        private static int contentFrom(Court court, int from, int word) {
            int set = 0;
            for (int i = from; i < court.steps; i++) {
                Judge judge = court.judgeOn(i);
                if (judge != null && court.isContent(judge, word)) {
                    set |= 1 << i;
                }
            }
            return set;
        }

        /** Chooses the rest of the WORDS, from first on, with which the judges not in had are CONTENT. */
        private boolean choose(int many, int size, int first, int had) {
            if (many >= size || many >= chosen.length) {
                return had == all;
            }
            for (int word = first; word < WORDS && (had | judgesFrom[word]) == all; word++) {
                int more = had | judgesBy[word];
                // A WORD that brings nobody would make a smaller set do, and those were tried.
                if (more != had) {
                    chosen[many] = word;
                    if (choose(many + 1, size, word + 1, more)) {
                        return true;
                    }
                }
            }
            return false;
        }
    }

    /** A row of numbers, of no bits while it is missing. */
    private static final class Sheet {
        final int[] numbers = new int[MOST_NUMBERS];
        int bits = 0;
        int length = 0;

        boolean isMissing() {
            return bits == 0;
        }

        void renew(int newBits, int n) {
            Arrays.fill(numbers, 0);
            bits = newBits;
            length = Math.max(0, Math.min(n, MOST_NUMBERS));
        }

        int get(int i) {
            return i >= 0 && i < length && i < numbers.length ? numbers[i] : 0;
        }

        void set(int i, int v) {
            if (i >= 0 && i < length && i < numbers.length) {
                numbers[i] = lowest(v);
            }
        }

        private int lowest(int v) {
            switch (bits) {
                case 8: return v & 255;
                case 16: return v & 65535;
                default: return v;
            }
        }

        /** Whether n numbers stand from number i on. */
        boolean holds(int i, int n) {
            return i >= 0 && n >= 0 && n <= length && i <= length - n;
        }

        boolean holdsWordsAlone() {
            for (int i = 0; i < length; i++) {
                if (!isWord(get(i))) {
                    return false;
                }
            }
            return true;
        }
    }
}
