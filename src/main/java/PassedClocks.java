import java.util.Arrays;
import java.util.NoSuchElementException;

/** Clocks set by whoever passes: the promises are told in the document, by number. */
public final class PassedClocks {
    public static final int NONE = -1;

    private static final int NO_SUCH = Integer.MIN_VALUE;
    private static final long NO_VALUE = Long.MIN_VALUE;

    private static final int MOST_BYTES = 700;
    private static final int MOST_CLOCKS = 5;
    private static final int MOST_PEOPLE = 5;
    private static final int MOST_ROUNDS = 12;
    private static final int MOST_GUNS = 3;
    private static final int MOST_KNOTS = 64;
    private static final int MOST_OPEN = 8;
    private static final int MOST_KEPT = 5;
    private static final int MOST_READINGS = 30;
    private static final int MOST_IN_ROW = 12;
    private static final int MOST_HOURS = 2000;
    private static final int MOST_HOURS_AT_ONCE = 500;
    private static final int HOURS_OF_WEEK = 168;

    /** A gun may be tried beside all those that are told. */
    private static final int MOST_DEEDS = MOST_ROUNDS + MOST_GUNS + 1;
    /** Far above the deeds of 2000 hours. */
    private static final int ALL_DEEDS = 1000;

    /** Things stand in slots: clocks from 0 on, watches from 5 on, however many clocks there are. */
    private static final int FIRST_WATCH = MOST_CLOCKS;
    private static final int SLOTS = MOST_CLOCKS + MOST_PEOPLE;

    private static final int MOST_OFF = 1000000000;
    private static final int MOST_OFF_AT_FIRST = 36000;
    private static final int MOST_GAIN = 600;
    private static final int MOST_READ = 1000000;
    private static final int MOST_APART = 100000;
    private static final int MOST_NUMBER = 99999;
    /** A number of any length that is more than every limit of a text. */
    private static final int BEYOND = 1000000;
    private static final long MOST_VALUE = 1000000000000L;

    private static final int WAYS_EACH_SIDE = 60;
    private static final int WAY_STEP = 60;

    private static final int SETS_CUSTOM = 0;
    private static final int TAKES_CUSTOM = 1;
    private static final int HALF_CUSTOM = 2;
    private static final int PART_CUSTOM = 3;
    private static final int MIDDLE_CUSTOM = 4;

    private static final int NO_FAULT = 0;
    private static final int MISPLACED = 1;
    private static final int TOO_MUCH = 2;
    private static final int TOLD_ALREADY = 3;
    private static final int NOT_TOLD = 4;

    private static final int END = 0;
    private static final int NUMBER = 1;
    private static final int NAME = 2;
    private static final int BAD = 3;
    private static final int SEMICOLON = 4;
    private static final int OPEN = 5;
    private static final int CLOSE = 6;
    private static final int PLUS = 7;
    private static final int MINUS = 8;
    private static final int TIMES = 9;
    private static final int OVER = 10;
    private static final int LESS = 11;
    private static final int AT_MOST = 12;
    private static final int EQUAL = 13;
    private static final int UNLIKE = 14;
    private static final int AT_LEAST = 15;
    private static final int MORE = 16;

    /** The words of the language; each one's kind is its place here, counted from FIRST_WORD on. */
    private static final String LANGUAGE =
        "clock person round gun gains rough if sets takes half part middle or and not ahead last passed hour day ";
    private static final int WORDS = 20;
    private static final int FIRST_WORD = 20;
    private static final int CLOCK = 20;
    private static final int PERSON = 21;
    private static final int ROUND = 22;
    private static final int GUN = 23;
    private static final int GAINS = 24;
    private static final int ROUGH = 25;
    private static final int IF = 26;
    private static final int SETS = 27;
    private static final int OR = 32;
    private static final int AND = 33;
    private static final int NOT = 34;
    private static final int AHEAD = 35;
    private static final int DAY = 39;
    private static final int NAMES = 5;

    private static final int WITHOUT_PERSON = 0;
    private static final int HALF_TRIED = 3;
    private static final int NO_RULES = 4;
    private static final int NO_GUNS = 5;
    private static final int NO_GAINS = 6;
    private static final int RIGHT_PERSON = 7;
    private static final int NOON_GUN = 8;
    private static final int NOON = 12;

    private final Reader reader;
    private Told told;
    private Told spare;
    private final Plan asTold;
    private final Plan tryPlan;
    private final Course now;
    private final Course image;
    private boolean imageKept;
    private final Course plainRun;
    private final Course tryRun;
    private final History history;
    private final Readings readings;
    private final Ways ways;
    private final Extremes endsFound;
    private final Extremes purposeFound;

    public PassedClocks() {
        reader = new Reader();
        told = new Told();
        spare = new Told();
        asTold = new Plan(told);
        tryPlan = new Plan(told);
        now = new Course(asTold);
        image = new Course(asTold);
        plainRun = new Course(asTold);
        tryRun = new Course(asTold);
        history = new History();
        readings = new Readings();
        ways = new Ways();
        endsFound = new Extremes();
        purposeFound = new Extremes();
        imageKept = false;
    }

    public int feed(int a, int b, int c, int d, int e) {
        if (reader.bytes + 20 > MOST_BYTES) {
            return NONE;
        }
        reader.take(a);
        reader.take(b);
        reader.take(c);
        reader.take(d);
        reader.take(e);
        return reader.bytes;
    }

    public int text(int n) {
        if (n < 0 || n > reader.bytes) {
            return -2;
        }
        reader.read(n, spare);
        if (reader.fault != NO_FAULT) {
            return NONE;
        }
        Told before = told;
        told = spare;
        spare = before;
        beginAnew();
        return told.lines;
    }

    private void beginAnew() {
        asTold.follow(told);
        now.begin(asTold);
        imageKept = false;
        readings.clear();
        ways.forget();
        endsFound.forget();
        purposeFound.forget();
    }

    public int fault(int what) {
        if (what == 0) {
            return reader.fault;
        }
        return what == 1 ? reader.place : NONE;
    }

    public int named(int what, int letters) {
        if (what == 0) {
            return told.find(0, told.clocks, letters);
        }
        return what == 1 ? told.find(FIRST_WATCH, told.people, letters) : NONE;
    }

    public int look(int person, int what) throws IndexOutOfBoundsException, NoSuchElementException {
        if (!told.hasPerson(person)) {
            throw new IndexOutOfBoundsException("no such person");
        }
        switch (what) {
            case 0: return told.first[FIRST_WATCH + person];
            case 1: return told.gain[FIRST_WATCH + person];
            case 2: return told.rough[FIRST_WATCH + person];
            case 3: return told.custom[person];
            case 4: return told.part[person];
            case 5: return told.whole[person];
            case 6: return told.rules.has(person) ? 1 : 0;
            default: throw new NoSuchElementException("no such what");
        }
    }

    public int clock(int clock, int what) {
        if (!told.hasClock(clock)) {
            return NO_SUCH;
        }
        switch (what) {
            case 0: return told.first[clock];
            case 1: return told.gain[clock];
            case 2: return told.rough[clock];
            default: return NO_SUCH;
        }
    }

    public int round(int round, int what) {
        if (round < 0 || round >= told.rounds) {
            return NONE;
        }
        switch (what) {
            case 0: return told.roundPerson[round];
            case 1: return told.roundClock[round];
            case 2: return told.roundHour[round];
            default: return NONE;
        }
    }

    public int hours(int n) {
        if (n < 0 || n > MOST_HOURS_AT_ONCE || now.hour + n > MOST_HOURS) {
            return NONE;
        }
        for (int i = 0; i < n; i++) {
            now.goOn(now.hour + 1);
            history.write(now);
        }
        return now.hour;
    }

    public int off(int thing) {
        int slot = told.slotOf(thing);
        return slot == NONE ? NO_SUCH : now.offNow(slot);
    }

    public int now(int person, int what) {
        if (!told.hasPerson(person)) {
            return NO_SUCH;
        }
        switch (what) {
            case 0: return now.last[person];
            case 1: return now.passed[person];
            case 2: return now.keptCount[person];
            default: return NO_SUCH;
        }
    }

    public int was(int thing, int hour) {
        int slot = told.slotOf(thing);
        if (slot == NONE || !wentBy(hour)) {
            return NO_SUCH;
        }
        return history.off[hour * SLOTS + slot];
    }

    private boolean wentBy(int hour) {
        return hour >= 0 && hour < now.hour;
    }

    public int spread(int hour) {
        if (told.things() == 0 || !wentBy(hour)) {
            return NONE;
        }
        return history.apart[hour];
    }

    public int pass(int person, int clock) {
        if (!canPass(person, clock) || now.hour == 0) {
            return NO_SUCH;
        }
        now.meet(person, clock, now.hour - 1);
        history.write(now);
        return now.offNow(clock);
    }

    private boolean canPass(int person, int clock) {
        return told.hasPerson(person) && told.hasClock(clock);
    }

    public int row(int n, long low, long high, int thing) {
        int slot = told.slotOf(thing);
        if (slot == NONE || n < 0 || n > MOST_IN_ROW || now.hour == 0) {
            return NO_SUCH;
        }
        tryRun.copy(now);
        for (int i = 0; i < n; i++) {
            long passing = i < 8 ? low >>> (8 * i) : high >>> (8 * (i - 8));
            int person = (int) (passing & 15);
            int clock = (int) (passing >>> 4 & 15);
            if (!canPass(person, clock)) {
                return NO_SUCH;
            }
            tryRun.meet(person, clock, now.hour - 1);
        }
        return tryRun.offNow(slot);
    }

    public long rule(int person, int ahead, int last, int passed, int hour) {
        if (!told.hasPerson(person) || !told.rules.has(person)) {
            return NO_VALUE;
        }
        boolean within = isWithin(ahead, -MOST_NUMBER, MOST_NUMBER) && isWithin(last, -MOST_NUMBER, MOST_NUMBER)
            && isWithin(passed, 0, MOST_NUMBER) && isWithin(hour, 0, MOST_HOURS - 1);
        if (!within) {
            return NO_VALUE;
        }
        told.rules.name(ahead, last, passed, hour);
        return told.rules.value(person);
    }

    private static boolean isWithin(int number, int least, int most) {
        return number >= least && number <= most;
    }

    public int moved(int thing, int other, int v) {
        int slot = told.slotOf(thing);
        int otherSlot = told.slotOf(other);
        if (slot == NONE || otherSlot == NONE || !isWithin(v, -MOST_OFF_AT_FIRST, MOST_OFF_AT_FIRST)) {
            return NO_SUCH;
        }
        plainRun.begin(asTold);
        plainRun.goOn(now.hour);
        tryRun.begin(asTold);
        tryRun.shift(otherSlot, v);
        tryRun.goOn(now.hour);
        return tryRun.offNow(slot) - plainRun.offNow(slot);
    }

    public int ends(int thing, int what) {
        int slot = told.slotOf(thing);
        if (slot == NONE || what < 0 || what > 1) {
            return NO_SUCH;
        }
        if (!endsFound.isOf(NONE, NONE, now.hour)) {
            findEnds();
        }
        return what == 0 ? endsFound.least[slot] : endsFound.most[slot];
    }

    private void findEnds() {
        endsFound.start(NONE, NONE, now.hour);
        int roughOnes = 0;
        for (int slot = 0; slot < SLOTS; slot++) {
            roughOnes += told.isRough(slot) ? 1 : 0;
        }
        for (int signs = 0; signs < 1 << roughOnes; signs++) {
            tryRun.begin(asTold);
            int left = signs;
            for (int slot = 0; slot < SLOTS; slot++) {
                if (told.isRough(slot)) {
                    tryRun.shift(slot, (left & 1) == 1 ? told.rough[slot] : -told.rough[slot]);
                    left >>= 1;
                }
            }
            tryRun.goOn(now.hour);
            endsFound.note(tryRun, signs);
        }
    }

    public int reading(int thing, int hour, int low, int high) {
        int slot = told.slotOf(thing);
        boolean within = isWithin(hour, 0, MOST_HOURS - 1) && low >= -MOST_READ && low <= high && high <= MOST_READ;
        if (slot == NONE || !within || readings.count >= MOST_READINGS) {
            return NONE;
        }
        ways.forget();
        return readings.add(slot, hour, low, high);
    }

    public boolean known(int n) {
        if (n < NONE || n > readings.count) {
            return false;
        }
        readings.knownFirst = n;
        ways.forget();
        return true;
    }

    public int judged() {
        plainRun.begin(asTold);
        return readings.firstWrong(plainRun);
    }

    public int wrong(int thing) {
        int slot = told.slotOf(thing);
        if (slot == NONE) {
            return NONE;
        }
        findWays(slot);
        return ways.count;
    }

    public int way(int thing, int k) {
        int slot = told.slotOf(thing);
        if (slot == NONE) {
            return NO_SUCH;
        }
        findWays(slot);
        return k >= 0 && k < ways.count ? ways.seconds[k] : NO_SUCH;
    }

    private void findWays(int slot) {
        if (ways.slot == slot) {
            return;
        }
        ways.start(slot);
        for (int k = -WAYS_EACH_SIDE; k <= WAYS_EACH_SIDE; k++) {
            tryRun.begin(asTold);
            tryRun.shift(slot, WAY_STEP * k);
            if (readings.fit(tryRun)) {
                ways.add(WAY_STEP * k);
            }
        }
    }

    public int tried(int what, int i) {
        if (!canTry(what, i)) {
            return NONE;
        }
        runOtherwise(what, i);
        return tryRun.apart();
    }

    public int other(int what, int i, int thing) {
        int slot = told.slotOf(thing);
        if (slot == NONE || !canTry(what, i)) {
            return NO_SUCH;
        }
        runOtherwise(what, i);
        return tryRun.offNow(slot);
    }

    private boolean canTry(int what, int i) {
        switch (what) {
            case NO_RULES:
            case NO_GUNS:
            case NO_GAINS:
                return i == 0;
            case NOON_GUN:
                return told.hasClock(i);
            default:
                return what >= WITHOUT_PERSON && what <= RIGHT_PERSON && told.hasPerson(i);
        }
    }

    private void runOtherwise(int what, int i) {
        tryPlan.follow(told);
        tryPlan.change(what, i);
        tryRun.begin(tryPlan);
        tryRun.goOn(now.hour);
    }

    public int agree(int d) {
        if (!isWithin(d, 0, MOST_APART) || told.things() == 0) {
            return NONE;
        }
        int first = NONE;
        for (int hour = now.hour - 1; hour >= 0 && history.apart[hour] <= d; hour--) {
            first = hour;
        }
        return first;
    }

    public int often(int clock, int d) {
        if (!told.hasClock(clock) || !isWithin(d, 0, MOST_APART)) {
            return NONE;
        }
        tryPlan.follow(told);
        tryPlan.change(NO_GUNS, 0);
        for (int k = HOURS_OF_WEEK; k >= 1; k--) {
            if (isEnough(clock, k, d)) {
                return k;
            }
        }
        return 0;
    }

    private boolean isEnough(int clock, int k, int d) {
        tryRun.begin(tryPlan);
        tryRun.watched = true;
        for (int hour = 0; hour < now.hour && tryRun.widest <= d; hour += k) {
            tryRun.goOn(hour);
            tryRun.shoot(clock, hour);
        }
        if (tryRun.widest > d) {
            return false;
        }
        tryRun.goOn(now.hour);
        tryRun.noteAll();
        return tryRun.widest <= d;
    }

    public int fewest(int d, int what) {
        if (!isWithin(d, 0, MOST_APART) || what < 0 || what > 1) {
            return NONE;
        }
        for (int size = 0; size <= told.people; size++) {
            for (int bits = 0; bits < 1 << told.people; bits++) {
                if (Integer.bitCount(bits) == size && holdAll(bits, d)) {
                    return what == 0 ? size : bits;
                }
            }
        }
        return -2;
    }

    private boolean holdAll(int bits, int d) {
        tryPlan.follow(told);
        for (int person = 0; person < told.people; person++) {
            if ((bits >> person & 1) == 1) {
                tryPlan.makeRight(person);
            }
        }
        tryRun.begin(tryPlan);
        tryRun.goOn(now.hour);
        return tryRun.apart() <= d;
    }

    public int purpose(int person, int clock, int thing, boolean most, int what) {
        int slot = told.slotOf(thing);
        if (slot == NONE || !canPass(person, clock) || what < 0 || what > 1 || now.hour == 0) {
            return NO_SUCH;
        }
        if (!purposeFound.isOf(person, clock, now.hour)) {
            findPurpose(person, clock);
        }
        if (most) {
            return what == 0 ? purposeFound.mostAt[slot] : purposeFound.most[slot];
        }
        return what == 0 ? purposeFound.leastAt[slot] : purposeFound.least[slot];
    }

    private void findPurpose(int person, int clock) {
        purposeFound.start(person, clock, now.hour);
        plainRun.begin(asTold);
        for (int hour = 0; hour < now.hour; hour++) {
            plainRun.goOn(hour + 1);
            tryRun.copy(plainRun);
            tryRun.meet(person, clock, hour);
            tryRun.goOn(now.hour);
            purposeFound.note(tryRun, hour);
        }
    }

    public int waits(int first, int second) {
        if (!told.hasPerson(first) || !told.hasPerson(second)) {
            return NO_SUCH;
        }
        return now.offNow(FIRST_WATCH + first) - now.offNow(FIRST_WATCH + second);
    }

    public int keep() {
        image.copy(now);
        imageKept = true;
        return image.hour;
    }

    public int back() {
        if (!imageKept) {
            return NONE;
        }
        now.copy(image);
        // Passings by hand behind the image may have changed what its last hour came to.
        history.write(now);
        return now.hour;
    }

    public int count(int what) {
        switch (what) {
            case 0: return told.clocks;
            case 1: return told.people;
            case 2: return told.rounds;
            case 3: return told.guns;
            case 4: return readings.count;
            case 5: return readings.knownCount();
            case 6: return now.hour;
            case 7: return told.rules.knots;
            case 8: return now.passings;
            default: return NONE;
        }
    }

    /** What a text tells. */
    private static final class Told {
        int clocks;
        int people;
        int rounds;
        int guns;
        int lines;
        final int[] name = new int[SLOTS];
        final int[] first = new int[SLOTS];
        final int[] gain = new int[SLOTS];
        final int[] rough = new int[SLOTS];
        final int[] custom = new int[MOST_PEOPLE];
        final int[] part = new int[MOST_PEOPLE];
        final int[] whole = new int[MOST_PEOPLE];
        final int[] roundPerson = new int[MOST_ROUNDS];
        final int[] roundClock = new int[MOST_ROUNDS];
        final int[] roundHour = new int[MOST_ROUNDS];
        final int[] gunClock = new int[MOST_GUNS];
        final int[] gunHour = new int[MOST_GUNS];
        final Rules rules = new Rules();

        void clear() {
            clocks = 0;
            people = 0;
            rounds = 0;
            guns = 0;
            lines = 0;
            Arrays.fill(gain, 0);
            Arrays.fill(rough, 0);
            Arrays.fill(part, 0);
            Arrays.fill(whole, 0);
            rules.clear();
        }

        int things() {
            return clocks + people;
        }

        boolean hasClock(int clock) {
            return clock >= 0 && clock < clocks;
        }

        boolean hasPerson(int person) {
            return person >= 0 && person < people;
        }

        int slotOf(int thing) {
            if (thing < 0 || thing >= things()) {
                return NONE;
            }
            return thing < clocks ? thing : FIRST_WATCH + thing - clocks;
        }

        boolean isRough(int slot) {
            boolean there = slot < FIRST_WATCH ? hasClock(slot) : hasPerson(slot - FIRST_WATCH);
            return there && rough[slot] > 0;
        }

        /** Which of the names that stand from a slot on it is. */
        int find(int fromSlot, int names, int letters) {
            for (int i = 0; i < names; i++) {
                if (name[fromSlot + i] == letters) {
                    return i;
                }
            }
            return NONE;
        }
    }

    /** The rules of all people, each a row of knots with the operands ahead of their sign. */
    private static final class Rules {
        int knots;
        final int[] kind = new int[MOST_KNOTS];
        final int[] number = new int[MOST_KNOTS];
        final int[] from = new int[MOST_PEOPLE];
        final int[] until = new int[MOST_PEOPLE];
        final long[] names = new long[NAMES];
        final long[] stack = new long[MOST_KNOTS];

        void clear() {
            knots = 0;
            Arrays.fill(from, 0);
            Arrays.fill(until, 0);
        }

        void add(int knotKind, int knotNumber) {
            if (knots < MOST_KNOTS) {
                kind[knots] = knotKind;
                number[knots] = knotNumber;
                knots++;
            }
        }

        boolean has(int person) {
            return from[person] < until[person];
        }

        void name(int ahead, int last, int passed, int hour) {
            names[0] = ahead;
            names[1] = last;
            names[2] = passed;
            names[3] = hour % 24;
            names[4] = hour / 24 % 7;
        }

        /** By the names told last; NO_VALUE is an error. */
        long value(int person) {
            int top = 0;
            for (int i = from[person]; i < until[person]; i++) {
                int knot = kind[i];
                int operands = knot == NUMBER || knot >= AHEAD ? 0 : knot == NOT ? 1 : 2;
                top -= operands;
                if (top < 0 || top >= MOST_KNOTS) {
                    return NO_VALUE;
                }
                long value;
                if (knot == NUMBER) {
                    value = number[i];
                } else if (operands == 0) {
                    value = names[knot - AHEAD];
                } else if (operands == 1) {
                    value = stack[top] == 0 ? 1 : 0;
                } else {
                    value = joined(knot, stack[top], stack[top + 1]);
                }
                if (value > MOST_VALUE || value < -MOST_VALUE) {
                    return NO_VALUE;
                }
                stack[top] = value;
                top++;
            }
            return top == 1 ? stack[0] : NO_VALUE;
        }

        private static long joined(int sign, long a, long b) {
            switch (sign) {
                case PLUS: return a + b;
                case MINUS: return a - b;
                // Two values within the limit may have a product beyond a long.
                case TIMES: return a != 0 && Math.abs(b) > MOST_VALUE / Math.abs(a) ? NO_VALUE : a * b;
                case OVER: return b == 0 ? NO_VALUE : a / b;
                case LESS: return a < b ? 1 : 0;
                case AT_MOST: return a <= b ? 1 : 0;
                case EQUAL: return a == b ? 1 : 0;
                case UNLIKE: return a != b ? 1 : 0;
                case AT_LEAST: return a >= b ? 1 : 0;
                case MORE: return a > b ? 1 : 0;
                case AND: return a != 0 && b != 0 ? 1 : 0;
                case OR: return a != 0 || b != 0 ? 1 : 0;
                default: return NO_VALUE;
            }
        }
    }

    /** The tokens of a text: of each its kind, its place, and its number or letters; the end is the last one. */
    private static final class Tokens {
        int count;
        final int[] kind = new int[MOST_BYTES + 1];
        final int[] place = new int[MOST_BYTES + 1];
        final int[] worth = new int[MOST_BYTES + 1];
        final int[] language = new int[WORDS];

        Tokens() {
            int word = 0;
            int from = 0;
            for (int i = 0; i < LANGUAGE.length() && word < WORDS; i++) {
                if (LANGUAGE.charAt(i) == ' ') {
                    language[word] = spelled(LANGUAGE, from, i);
                    word++;
                    from = i + 1;
                }
            }
        }

        private static int spelled(String words, int from, int until) {
            int letters = 0;
            for (int i = from; i < until; i++) {
                letters = withLetter(letters, i - from, words.charAt(i));
            }
            return letters;
        }

        private static int withLetter(int letters, int index, int letter) {
            return letters | (letter - 'a' + 1) << (25 - 5 * index);
        }

        private static boolean isLetter(int sign) {
            return sign >= 'a' && sign <= 'z';
        }

        private static boolean isDigit(int sign) {
            return sign >= '0' && sign <= '9';
        }

        void split(byte[] bytes, int length) {
            count = 0;
            int at = 0;
            for (int i = 0; i < MOST_BYTES && at < length; i++) {
                int sign = bytes[at] & 255;
                if (sign == 10 || sign == 32) {
                    at++;
                } else if (isLetter(sign)) {
                    at = takeWord(bytes, at, length);
                } else if (isDigit(sign)) {
                    at = takeNumber(bytes, at, length);
                } else {
                    at = takeSign(bytes, at, length);
                }
            }
            add(END, length, 0);
        }

        private void add(int tokenKind, int tokenPlace, int tokenWorth) {
            if (count <= MOST_BYTES) {
                kind[count] = tokenKind;
                place[count] = tokenPlace;
                worth[count] = tokenWorth;
                count++;
            }
        }

        private int takeWord(byte[] bytes, int from, int length) {
            int letters = 0;
            int at = from;
            while (at < length && isLetter(bytes[at])) {
                if (at - from < 6) {
                    letters = withLetter(letters, at - from, bytes[at]);
                }
                at++;
            }
            add(at - from > 6 ? BAD : wordKind(letters), from, letters);
            return at;
        }

        private int wordKind(int letters) {
            for (int word = 0; word < WORDS; word++) {
                if (language[word] == letters) {
                    return FIRST_WORD + word;
                }
            }
            return NAME;
        }

        /** However long: what is beyond every limit stays so. */
        private int takeNumber(byte[] bytes, int from, int length) {
            int number = 0;
            int at = from;
            while (at < length && isDigit(bytes[at])) {
                number = Math.min(10 * number + bytes[at] - '0', BEYOND);
                at++;
            }
            add(NUMBER, from, number);
            return at;
        }

        private int takeSign(byte[] bytes, int from, int length) {
            int next = from + 1 < length ? bytes[from + 1] : 0;
            int sign = bytes[from];
            int tokenKind = signKind(sign);
            int size = 1;
            if (sign == '<' && next == '=') {
                tokenKind = AT_MOST;
                size = 2;
            } else if (sign == '<' && next == '>') {
                tokenKind = UNLIKE;
                size = 2;
            } else if (sign == '>' && next == '=') {
                tokenKind = AT_LEAST;
                size = 2;
            }
            add(tokenKind, from, 0);
            return from + size;
        }

        private static int signKind(int sign) {
            switch (sign) {
                case ';': return SEMICOLON;
                case '(': return OPEN;
                case ')': return CLOSE;
                case '+': return PLUS;
                case '-': return MINUS;
                case '*': return TIMES;
                case '/': return OVER;
                case '<': return LESS;
                case '=': return EQUAL;
                case '>': return MORE;
                default: return BAD;
            }
        }
    }

    /** Holds the tape and reads texts from it. Behind a fault it stands at the end, so that all reading ends by itself. */
    private static final class Reader {
        final byte[] tape = new byte[MOST_BYTES];
        int bytes;
        int fault = NO_FAULT;
        int place = NONE;
        private final Tokens tokens = new Tokens();
        private Told told;
        private int at;
        private int knots;

        void take(int number) {
            for (int shift = 24; shift >= 0 && bytes < MOST_BYTES; shift -= 8) {
                tape[bytes] = (byte) (number >> shift);
                bytes++;
            }
        }

        /** The first so many bytes of the tape, which must have them; the tape is empty then. */
        void read(int length, Told into) {
            tokens.split(tape, length);
            bytes = 0;
            fault = NO_FAULT;
            place = NONE;
            at = 0;
            knots = 0;
            told = into;
            told.clear();
            for (int i = 0; i < MOST_BYTES && kind() != END; i++) {
                switch (kind()) {
                    case CLOCK: readClock(); break;
                    case PERSON: readPerson(); break;
                    case ROUND: readRound(); break;
                    case GUN: readGun(); break;
                    default: refuse(MISPLACED);
                }
                expect(SEMICOLON);
                told.lines++;
            }
        }

        private int kind() {
            return tokens.kind[at];
        }

        private void step() {
            if (at + 1 < tokens.count) {
                at++;
            }
        }

        private void refuse(int what) {
            if (fault == NO_FAULT) {
                fault = what;
                place = tokens.place[at];
            }
            at = tokens.count - 1;
        }

        private void expect(int tokenKind) {
            if (kind() == tokenKind) {
                step();
            } else {
                refuse(MISPLACED);
            }
        }

        private void readClock() {
            int clock = told.clocks;
            if (clock >= MOST_CLOCKS) {
                refuse(TOO_MUCH);
                return;
            }
            step();
            readNewName(0, clock);
            told.first[clock] = readSigned(MOST_OFF_AT_FIRST);
            readRest(clock, NONE);
            told.clocks++;
        }

        private void readPerson() {
            int person = told.people;
            if (person >= MOST_PEOPLE) {
                refuse(TOO_MUCH);
                return;
            }
            step();
            readNewName(FIRST_WATCH, person);
            told.first[FIRST_WATCH + person] = readSigned(MOST_OFF_AT_FIRST);
            readCustom(person);
            readRest(FIRST_WATCH + person, person);
            told.people++;
        }

        private void readRound() {
            int round = told.rounds;
            if (round >= MOST_ROUNDS) {
                refuse(TOO_MUCH);
                return;
            }
            step();
            told.roundPerson[round] = readToldName(FIRST_WATCH, told.people);
            told.roundClock[round] = readToldName(0, told.clocks);
            told.roundHour[round] = readNumber(0, HOURS_OF_WEEK - 1);
            told.rounds++;
        }

        private void readGun() {
            int gun = told.guns;
            if (gun >= MOST_GUNS) {
                refuse(TOO_MUCH);
                return;
            }
            step();
            told.gunClock[gun] = readToldName(0, told.clocks);
            told.gunHour[gun] = readNumber(0, HOURS_OF_WEEK - 1);
            told.guns++;
        }

        /** The names of its kind stand from a slot on, so many as are told. */
        private void readNewName(int fromSlot, int names) {
            int letters = tokens.worth[at];
            if (kind() != NAME) {
                refuse(MISPLACED);
            } else if (told.find(fromSlot, names, letters) != NONE) {
                refuse(TOLD_ALREADY);
            } else {
                told.name[fromSlot + names] = letters;
                step();
            }
        }

        private int readToldName(int fromSlot, int names) {
            int found = told.find(fromSlot, names, tokens.worth[at]);
            if (kind() != NAME) {
                refuse(MISPLACED);
            } else if (found == NONE) {
                refuse(NOT_TOLD);
            } else {
                step();
                return found;
            }
            return 0;
        }

        private int readNumber(int least, int most) {
            int number = tokens.worth[at];
            if (kind() != NUMBER) {
                refuse(MISPLACED);
            } else if (number < least || number > most) {
                refuse(TOO_MUCH);
            } else {
                step();
                return number;
            }
            return 0;
        }

        private int readSigned(int most) {
            if (kind() == MINUS) {
                step();
                return -readNumber(0, most);
            }
            return readNumber(0, most);
        }

        private void readCustom(int person) {
            int custom = kind() - SETS;
            if (custom < SETS_CUSTOM || custom > MIDDLE_CUSTOM) {
                refuse(MISPLACED);
                return;
            }
            step();
            told.custom[person] = custom;
            if (custom == PART_CUSTOM) {
                told.part[person] = readNumber(1, 60);
                told.whole[person] = readNumber(told.part[person], 60);
            } else if (custom == MIDDLE_CUSTOM) {
                told.part[person] = readNumber(1, MOST_KEPT);
            }
        }

        /** What may stand behind a clock (person NONE) or a person, each at most once. */
        private void readRest(int slot, int person) {
            int seen = 0;
            for (int i = 0; i < 4; i++) {
                int word = kind();
                boolean fits = word == GAINS || word == ROUGH || word == IF && person != NONE;
                if (!fits) {
                    return;
                }
                int bit = 1 << (word - GAINS);
                if ((seen & bit) != 0) {
                    refuse(TOLD_ALREADY);
                    return;
                }
                seen |= bit;
                step();
                if (word == GAINS) {
                    told.gain[slot] = readSigned(MOST_GAIN);
                } else if (word == ROUGH) {
                    told.rough[slot] = readNumber(0, MOST_OFF_AT_FIRST);
                } else {
                    told.rules.from[person] = told.rules.knots;
                    readEither(0);
                    told.rules.until[person] = told.rules.knots;
                }
            }
        }

        /** Knots are counted along the text; a sign joins the rule only behind its operands. */
        private void takeKnot() {
            if (knots >= MOST_KNOTS) {
                refuse(TOO_MUCH);
            } else {
                knots++;
                step();
            }
        }

        private void readEither(int open) {
            readBoth(open);
            for (int i = 0; i < MOST_KNOTS && kind() == OR; i++) {
                takeKnot();
                readBoth(open);
                told.rules.add(OR, 0);
            }
        }

        private void readBoth(int open) {
            readNot(open);
            for (int i = 0; i < MOST_KNOTS && kind() == AND; i++) {
                takeKnot();
                readNot(open);
                told.rules.add(AND, 0);
            }
        }

        private void readNot(int open) {
            int nots = 0;
            for (int i = 0; i <= MOST_KNOTS && kind() == NOT; i++) {
                takeKnot();
                nots++;
            }
            readCompared(open);
            for (int i = 0; i < nots; i++) {
                told.rules.add(NOT, 0);
            }
        }

        private void readCompared(int open) {
            readSum(open);
            int sign = kind();
            if (sign >= LESS && sign <= MORE) {
                takeKnot();
                readSum(open);
                told.rules.add(sign, 0);
            }
        }

        private void readSum(int open) {
            readProduct(open);
            int sign = kind();
            for (int i = 0; i < MOST_KNOTS && (sign == PLUS || sign == MINUS); i++) {
                takeKnot();
                readProduct(open);
                told.rules.add(sign, 0);
                sign = kind();
            }
        }

        private void readProduct(int open) {
            readPart(open);
            int sign = kind();
            for (int i = 0; i < MOST_KNOTS && (sign == TIMES || sign == OVER); i++) {
                takeKnot();
                readPart(open);
                told.rules.add(sign, 0);
                sign = kind();
            }
        }

        private void readPart(int open) {
            int part = kind();
            if (part == NUMBER && tokens.worth[at] > MOST_NUMBER) {
                refuse(TOO_MUCH);
            } else if (part == NUMBER || part >= AHEAD && part <= DAY) {
                told.rules.add(part, tokens.worth[at]);
                takeKnot();
            } else if (part == OPEN && open >= MOST_OPEN) {
                refuse(TOO_MUCH);
            } else if (part == OPEN) {
                step();
                readEither(open + 1);
                expect(CLOSE);
            } else {
                refuse(MISPLACED);
            }
        }
    }

    /** What a run goes by: a text as told, or with something changed. A week's deeds stand in the order they are done. */
    private static final class Plan {
        Told told;
        final int[] first = new int[SLOTS];
        final int[] gain = new int[SLOTS];
        final int[] custom = new int[MOST_PEOPLE];
        final boolean[] ruled = new boolean[MOST_PEOPLE];
        int deeds;
        final int[] deedHour = new int[MOST_DEEDS];
        /** NONE is a gun. */
        final int[] deedPerson = new int[MOST_DEEDS];
        final int[] deedClock = new int[MOST_DEEDS];

        Plan(Told told) {
            this.told = told;
        }

        void follow(Told text) {
            told = text;
            System.arraycopy(told.first, 0, first, 0, SLOTS);
            System.arraycopy(told.gain, 0, gain, 0, SLOTS);
            System.arraycopy(told.custom, 0, custom, 0, MOST_PEOPLE);
            for (int person = 0; person < MOST_PEOPLE; person++) {
                ruled[person] = told.rules.has(person);
            }
            layDeeds(true, NONE);
        }

        private void layDeeds(boolean guns, int without) {
            deeds = 0;
            for (int gun = 0; guns && gun < told.guns; gun++) {
                addDeed(told.gunHour[gun], NONE, told.gunClock[gun]);
            }
            for (int round = 0; round < told.rounds; round++) {
                if (told.roundPerson[round] != without) {
                    addDeed(told.roundHour[round], told.roundPerson[round], told.roundClock[round]);
                }
            }
        }

        /** Behind the deeds of its hour that are laid already, but a gun ahead of all rounds. */
        private void addDeed(int hour, int person, int clock) {
            if (deeds >= MOST_DEEDS) {
                return;
            }
            int place = deeds;
            while (place > 0 && isBehind(place - 1, hour, person)) {
                deedHour[place] = deedHour[place - 1];
                deedPerson[place] = deedPerson[place - 1];
                deedClock[place] = deedClock[place - 1];
                place--;
            }
            deedHour[place] = hour;
            deedPerson[place] = person;
            deedClock[place] = clock;
            deeds++;
        }

        private boolean isBehind(int deed, int hour, int person) {
            return deedHour[deed] > hour || deedHour[deed] == hour && person == NONE && deedPerson[deed] != NONE;
        }

        void change(int what, int i) {
            switch (what) {
                case WITHOUT_PERSON: layDeeds(true, i); break;
                case NO_RULES: dropRules(); break;
                case NO_GUNS: layDeeds(false, NONE); break;
                case NO_GAINS: Arrays.fill(gain, 0); break;
                case RIGHT_PERSON: makeRight(i); break;
                case NOON_GUN: addDeed(NOON, NONE, i); break;
                default: setCustom(what, i);
            }
        }

        /** What is tried as 1, 2, 3 are the customs 0, 1, 2. */
        private void setCustom(int what, int person) {
            if (what > WITHOUT_PERSON && what <= HALF_TRIED) {
                custom[person] = what - 1;
            }
        }

        private void dropRules() {
            for (int person = 0; person < MOST_PEOPLE; person++) {
                ruled[person] = false;
            }
        }

        void makeRight(int person) {
            first[FIRST_WATCH + person] = 0;
            gain[FIRST_WATCH + person] = 0;
            custom[person] = SETS_CUSTOM;
            ruled[person] = false;
        }
    }

    /**
     * Hours that go by after a plan. What a thing gains is added only when something is done with it: as
     * gaining goes one way, the limit of what is off comes out as if it were added hour by hour.
     */
    private static final class Course {
        Plan plan;
        /** The hour that is next. */
        int hour;
        int passings;
        final int[] last = new int[MOST_PEOPLE];
        final int[] passed = new int[MOST_PEOPLE];
        final int[] keptCount = new int[MOST_PEOPLE];
        /** If watched: the most that anything was off, above or below 0, at the end of an hour. */
        boolean watched;
        int widest;
        private int deed;
        private int week;
        private final int[] off = new int[SLOTS];
        /** Up to which hour its gain is in what a thing is off. */
        private final int[] since = new int[SLOTS];
        private final int[] kept = new int[MOST_PEOPLE * MOST_KEPT];
        private final int[] sorted = new int[MOST_KEPT];

        Course(Plan plan) {
            this.plan = plan;
        }

        void begin(Plan newPlan) {
            plan = newPlan;
            hour = 0;
            passings = 0;
            watched = false;
            widest = 0;
            deed = 0;
            week = 0;
            System.arraycopy(plan.first, 0, off, 0, SLOTS);
            Arrays.fill(since, 0);
            Arrays.fill(last, 0);
            Arrays.fill(passed, 0);
            Arrays.fill(keptCount, 0);
        }

        void copy(Course from) {
            plan = from.plan;
            hour = from.hour;
            passings = from.passings;
            watched = from.watched;
            widest = from.widest;
            deed = from.deed;
            week = from.week;
            System.arraycopy(from.off, 0, off, 0, SLOTS);
            System.arraycopy(from.since, 0, since, 0, SLOTS);
            System.arraycopy(from.last, 0, last, 0, MOST_PEOPLE);
            System.arraycopy(from.passed, 0, passed, 0, MOST_PEOPLE);
            System.arraycopy(from.keptCount, 0, keptCount, 0, MOST_PEOPLE);
            System.arraycopy(from.kept, 0, kept, 0, MOST_PEOPLE * MOST_KEPT);
        }

        /** Ahead of the first hour alone. */
        void shift(int slot, int seconds) {
            off[slot] += seconds;
        }

        /** All hours go by up to the one that is to be next. */
        void goOn(int nextHour) {
            for (int i = 0; i < ALL_DEEDS && deed < plan.deeds; i++) {
                int deedHour = week * HOURS_OF_WEEK + plan.deedHour[deed];
                if (deedHour >= nextHour) {
                    break;
                }
                if (plan.deedPerson[deed] == NONE) {
                    shoot(plan.deedClock[deed], deedHour);
                } else {
                    meet(plan.deedPerson[deed], plan.deedClock[deed], deedHour);
                }
                deed++;
                if (deed == plan.deeds) {
                    deed = 0;
                    week++;
                }
            }
            hour = nextHour;
        }

        void shoot(int clock, int atHour) {
            settle(clock, atHour);
            off[clock] = 0;
        }

        /** A person passes a clock. */
        void meet(int person, int clock, int atHour) {
            int watch = FIRST_WATCH + person;
            settle(clock, atHour);
            settle(watch, atHour);
            int ahead = off[clock] - off[watch];
            long allowed = 1;
            if (plan.ruled[person]) {
                plan.told.rules.name(ahead, last[person], passed[person], atHour);
                allowed = plan.told.rules.value(person);
            }
            if (allowed != 0 && allowed != NO_VALUE) {
                act(person, clock, ahead);
            }
            last[person] = ahead;
            passed[person]++;
            passings++;
        }

        private void act(int person, int clock, int ahead) {
            int watch = FIRST_WATCH + person;
            switch (plan.custom[person]) {
                case SETS_CUSTOM:
                    off[clock] = off[watch];
                    break;
                case TAKES_CUSTOM:
                    off[watch] = off[clock];
                    break;
                case HALF_CUSTOM:
                    off[clock] = Math.floorDiv(off[clock] + off[watch], 2);
                    off[watch] = off[clock];
                    break;
                case PART_CUSTOM:
                    off[clock] -= partOf(person, ahead);
                    break;
                default:
                    keepAhead(person, ahead);
                    off[watch] = bounded((long) off[watch] + middleKept(person));
            }
        }

        private int partOf(int person, int ahead) {
            int whole = plan.told.whole[person];
            return whole == 0 ? 0 : (int) ((long) plan.told.part[person] * ahead / whole);
        }

        private void keepAhead(int person, int ahead) {
            int from = person * MOST_KEPT;
            int count = keptCount[person];
            if (count >= plan.told.part[person]) {
                System.arraycopy(kept, from + 1, kept, from, MOST_KEPT - 1);
                count--;
            }
            kept[from + count] = ahead;
            keptCount[person] = count + 1;
        }

        private int middleKept(int person) {
            int count = keptCount[person];
            for (int i = 0; i < count; i++) {
                int ahead = kept[person * MOST_KEPT + i];
                int place = i;
                while (place > 0 && sorted[place - 1] > ahead) {
                    sorted[place] = sorted[place - 1];
                    place--;
                }
                sorted[place] = ahead;
            }
            return sorted[(count - 1) / 2];
        }

        private void settle(int slot, int atHour) {
            if (atHour > since[slot]) {
                // Since its last deed a thing went one way, so it was widest off in the first or last hour of these.
                if (watched) {
                    noteWidest(off[slot]);
                    noteWidest(offAt(slot, atHour - 1));
                }
                off[slot] = offAt(slot, atHour);
                since[slot] = atHour;
            }
        }

        private int offAt(int slot, int atHour) {
            return bounded((long) off[slot] + plan.gain[slot] * (atHour - since[slot]));
        }

        private static int bounded(long seconds) {
            if (seconds > MOST_OFF) {
                return MOST_OFF;
            }
            return seconds < -MOST_OFF ? -MOST_OFF : (int) seconds;
        }

        int offNow(int slot) {
            return offAt(slot, hour > 0 ? hour - 1 : 0);
        }

        private void noteWidest(int seconds) {
            int wide = seconds < 0 ? -seconds : seconds;
            if (wide > widest) {
                widest = wide;
            }
        }

        /** What settling alone has not come to yet. */
        void noteAll() {
            for (int thing = 0; thing < plan.told.things() && hour > 0; thing++) {
                int slot = plan.told.slotOf(thing);
                noteWidest(off[slot]);
                noteWidest(offNow(slot));
            }
        }

        /** How far the things are apart now. */
        int apart() {
            int things = plan.told.things();
            if (things == 0) {
                return 0;
            }
            int least = MOST_OFF;
            int most = -MOST_OFF;
            for (int thing = 0; thing < things; thing++) {
                int seconds = offNow(plan.told.slotOf(thing));
                least = Math.min(least, seconds);
                most = Math.max(most, seconds);
            }
            return most - least;
        }
    }

    /** What all was at the end of each hour that went by. */
    private static final class History {
        final int[] off = new int[MOST_HOURS * SLOTS];
        final int[] apart = new int[MOST_HOURS];

        void write(Course course) {
            int hour = course.hour - 1;
            if (hour < 0 || hour >= MOST_HOURS) {
                return;
            }
            Told told = course.plan.told;
            int things = told.things();
            int least = MOST_OFF;
            int most = things == 0 ? MOST_OFF : -MOST_OFF;
            for (int thing = 0; thing < things; thing++) {
                int slot = told.slotOf(thing);
                int seconds = course.offNow(slot);
                off[hour * SLOTS + slot] = seconds;
                least = Math.min(least, seconds);
                most = Math.max(most, seconds);
            }
            apart[hour] = most - least;
        }
    }

    /** What things were read to be off, by number, and their order by hours. */
    private static final class Readings {
        int count;
        /** NONE: all. */
        int knownFirst = NONE;
        private final int[] slot = new int[MOST_READINGS];
        private final int[] hour = new int[MOST_READINGS];
        private final int[] low = new int[MOST_READINGS];
        private final int[] high = new int[MOST_READINGS];
        private final int[] byHour = new int[MOST_READINGS];

        void clear() {
            count = 0;
            knownFirst = NONE;
        }

        int knownCount() {
            return knownFirst == NONE ? count : knownFirst;
        }

        int add(int newSlot, int newHour, int newLow, int newHigh) {
            if (count >= MOST_READINGS) {
                return NONE;
            }
            slot[count] = newSlot;
            hour[count] = newHour;
            low[count] = newLow;
            high[count] = newHigh;
            int place = count;
            while (place > 0 && hour[byHour[place - 1]] > newHour) {
                byHour[place] = byHour[place - 1];
                place--;
            }
            byHour[place] = count;
            count++;
            return count - 1;
        }

        /** The course stands ahead of its first hour. */
        boolean fit(Course course) {
            int known = knownCount();
            for (int i = 0; i < count; i++) {
                int number = byHour[i];
                if (number < known) {
                    course.goOn(hour[number] + 1);
                    if (!isSo(number, course)) {
                        return false;
                    }
                }
            }
            return true;
        }

        /** The course stands ahead of its first hour. */
        int firstWrong(Course course) {
            int first = knownCount();
            for (int i = 0; i < count; i++) {
                int number = byHour[i];
                if (number < first) {
                    course.goOn(hour[number] + 1);
                    if (!isSo(number, course)) {
                        first = number;
                    }
                }
            }
            return first == knownCount() ? NONE : first;
        }

        /** The course stands behind the hour of the reading. */
        private boolean isSo(int number, Course course) {
            int seconds = course.offNow(slot[number]);
            return seconds >= low[number] && seconds <= high[number];
        }
    }

    /** The ways found of one thing, until a reading changes them. */
    private static final class Ways {
        int slot = NONE;
        int count;
        final int[] seconds = new int[2 * WAYS_EACH_SIDE + 1];

        void forget() {
            slot = NONE;
        }

        void start(int newSlot) {
            slot = newSlot;
            count = 0;
        }

        void add(int way) {
            if (count < seconds.length) {
                seconds[count] = way;
                count++;
            }
        }
    }

    /** Of each thing the least and the most that it came to in runs up to an hour, and with which of them first. */
    private static final class Extremes {
        final int[] least = new int[SLOTS];
        final int[] leastAt = new int[SLOTS];
        final int[] most = new int[SLOTS];
        final int[] mostAt = new int[SLOTS];
        private int person = NONE;
        private int clock = NONE;
        private int hour = NONE;

        void forget() {
            hour = NONE;
        }

        boolean isOf(int ofPerson, int ofClock, int ofHour) {
            return person == ofPerson && clock == ofClock && hour == ofHour;
        }

        void start(int ofPerson, int ofClock, int ofHour) {
            person = ofPerson;
            clock = ofClock;
            hour = ofHour;
            Arrays.fill(least, Integer.MAX_VALUE);
            Arrays.fill(most, Integer.MIN_VALUE);
        }

        void note(Course course, int at) {
            Told told = course.plan.told;
            for (int thing = 0; thing < told.things(); thing++) {
                int slot = told.slotOf(thing);
                int seconds = course.offNow(slot);
                if (seconds < least[slot]) {
                    least[slot] = seconds;
                    leastAt[slot] = at;
                }
                if (seconds > most[slot]) {
                    most[slot] = seconds;
                    mostAt[slot] = at;
                }
            }
        }
    }
}
