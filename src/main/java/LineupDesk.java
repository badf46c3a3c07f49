import java.util.NoSuchElementException;

/** A desk for lineups, as ../shared/DOC.md promises it. */
public final class LineupDesk {
    public static final int NONE = -1;

    private static final int MOST_BYTES = 500;
    private static final int FEED_BYTES = 20;
    private static final int MOST_TRAITS = 5;
    private static final int MOST_PERSONS = 16;
    private static final int MOST_SHOWN = 8;
    private static final int MOST_VALUE = 9;
    private static final int MOST_WEIGHT = 9;
    private static final int MOST_MATCH = 99;
    private static final int MOST_MOCKS = 999;
    private static final int MOST_ACTS = 8;
    private static final int MOST_CUT = 120;
    private static final int SUSPECT = 0;

    private static final int NOISE = 0;
    private static final int CUT = 1;
    private static final int NUDGE = 2;
    private static final int PRIOR = 3;
    private static final int SETTINGS = 4;
    private static final int[] LEAST_SETTING = {0, 0, 0, 1};
    private static final int[] MOST_SETTING = {5, 120, 20, 99};
    private static final int[] USUAL_SETTING = {2, 30, 5, 50};

    private static final int MISSING = 0;
    private static final int WRONG_NUMBER = 1;
    private static final int WRONG_STATE = 2;
    private static final int REASONS = 3;

    private static final int ONE_BY_ONE = 0;
    private static final int AT_ONCE = 1;

    private final byte[] tape = new byte[MOST_BYTES];
    private int tapeBytes = 0;
    private final Lineup now = new Lineup();
    private final Reader reader = new Reader();
    private final Lineup[] past = new Lineup[MOST_ACTS];
    private int acts = 0;
    private int faultPlace = NONE;
    private final int[] refused = new int[REASONS];
    private final Witness guilty = new Witness();
    private final Witness innocent = new Witness();
    private final Chooser chooser = new Chooser();

    public LineupDesk() {
        for (int k = 0; k < past.length; k++) {
            past[k] = new Lineup();
        }
        now.traits = 1;
        now.values[0] = 5;
        now.toldValues[0] = 5;
        now.weights[0] = 3;
        reader.formula.rate(now);
        now.showFirst();
    }

    public int feed(int a, int b, int c, int d, int e) {
        if (tapeBytes + FEED_BYTES > MOST_BYTES) {
            return NONE;
        }
        putBytes(a);
        putBytes(b);
        putBytes(c);
        putBytes(d);
        putBytes(e);
        return tapeBytes;
    }

    public int text(int n) throws IllegalArgumentException {
        needRange(n, 0, tapeBytes);
        int kind = reader.read(tape, n);
        tapeBytes = 0;
        faultPlace = reader.faultPlace;
        if (kind != Reader.FINE) {
            return kind - 10;
        }
        keepPast();
        now.copyFrom(reader.draft);
        return now.persons;
    }

    public int fault() {
        return faultPlace;
    }

    public int show(int person) throws NoSuchElementException, IllegalStateException {
        needPerson(person);
        needState(now.placeOf(person) == NONE && now.shownCount < MOST_SHOWN);
        keepPast();
        now.showLast(person);
        return now.shownCount;
    }

    public int hide(int k) throws NoSuchElementException {
        needPlace(k);
        keepPast();
        now.hideAt(k);
        return now.shownCount;
    }

    public int change(int what, int n) throws IllegalArgumentException {
        needRange(what, 0, SETTINGS - 1);
        needRange(n, LEAST_SETTING[what], MOST_SETTING[what]);
        keepPast();
        int before = now.settings[what];
        now.settings[what] = n;
        return before;
    }

    public int mock(int person) throws NoSuchElementException, IllegalStateException {
        needPerson(person);
        needState(now.placeOf(person) != NONE && now.mockPicks[person] < MOST_MOCKS);
        keepPast();
        now.mockPicks[person]++;
        return now.mockPicks[person];
    }

    public int undo() {
        if (acts == 0) {
            return NONE;
        }
        acts--;
        now.copyFrom(past[acts]);
        return acts;
    }

    public int told(int what) throws IllegalArgumentException {
        needRange(what, 0, 9);
        switch (what) {
            case 0:
                return now.traits;
            case 1:
                return now.persons;
            case 2:
                return now.shownCount;
            case 7:
                return now.allMockPicks();
            case 8:
                return tapeBytes;
            case 9:
                return acts;
            default:
                return now.settings[what - 3];
        }
    }

    public int trait(int trait, int what) throws NoSuchElementException, IllegalArgumentException {
        needTrait(trait);
        needRange(what, 0, 1);
        return what == 0 ? now.toldValues[trait] : now.weights[trait];
    }

    public int value(int person, int trait) throws NoSuchElementException {
        needPerson(person);
        needTrait(trait);
        return now.valueOf(person, trait);
    }

    public int shown(int k) throws NoSuchElementException {
        needPlace(k);
        return now.order[k];
    }

    public int match(int person, boolean guilt) throws NoSuchElementException {
        needPerson(person);
        return now.matchOf(person, guilt);
    }

    public int mocks(int person) throws NoSuchElementException {
        needPerson(person);
        return now.mockPicks[person];
    }

    public int alike(int one, int other) throws NoSuchElementException {
        needPerson(one);
        needPerson(other);
        int bits = 0;
        for (int trait = 0; trait < now.traits; trait++) {
            if (now.valueOf(one, trait) == now.valueOf(other, trait)) {
                bits |= 1 << trait;
            }
        }
        return bits;
    }

    public long chance(int way, int person, boolean guilt, boolean blind, int what)
            throws NoSuchElementException, IllegalArgumentException {
        if (person != NONE) {
            needPerson(person);
        }
        needRange(way, ONE_BY_ONE, AT_ONCE);
        needRange(what, 0, 1);
        Witness witness = guilt ? guilty : innocent;
        witness.look(now, guilt, blind);
        if (person == NONE) {
            return partOfFraction(witness.casesOfNobody(), witness.allCases(), what);
        }
        return partOfFraction(witness.casesOf(way, now.placeOf(person)), witness.allCases(), what);
    }

    public long size(int what) throws IllegalArgumentException {
        needRange(what, 0, 3);
        int[] counts = what < 2 ? now.matches : now.mockPicks;
        long sum = 0;
        long squares = 0;
        for (int k = 0; k < now.shownCount; k++) {
            long count = counts[now.order[k]];
            sum += count;
            squares += count * count;
        }
        return partOfFraction(sum * sum, squares, what & 1);
    }

    public long fairest(int n, int what) throws IllegalArgumentException {
        needRange(n, 2, MOST_SHOWN);
        needRange(what, 0, 2);
        if (n > now.persons) {
            return NONE;
        }
        chooser.chooseFrom(now, n - 1);
        if (what == 0) {
            return chooser.bestSet;
        }
        return partOfFraction(chooser.bestSum * chooser.bestSum, chooser.bestSquares, what - 1);
    }

    public long odds(int way, boolean blind, boolean picked, int what)
            throws IllegalArgumentException, IllegalStateException {
        needRange(way, ONE_BY_ONE, AT_ONCE);
        needRange(what, 0, 1);
        int place = now.placeOf(SUSPECT);
        needState(place != NONE);
        guilty.look(now, true, blind);
        innocent.look(now, false, blind);
        long byGuilt = guilty.casesOf(way, place);
        long notByGuilt = innocent.casesOf(way, place);
        if (!picked) {
            byGuilt = guilty.allCases() - byGuilt;
            notByGuilt = innocent.allCases() - notByGuilt;
        }
        long prior = now.settings[PRIOR];
        long above = prior * byGuilt;
        return partOfFraction(above, above + (100 - prior) * notByGuilt, what);
    }

    public int cut(int way) throws IllegalArgumentException, IllegalStateException {
        needRange(way, ONE_BY_ONE, AT_ONCE);
        int place = now.placeOf(SUSPECT);
        needState(place != NONE);
        guilty.look(now, true, true);
        innocent.look(now, false, true);
        int best = 0;
        long bestTelling = 0;
        for (int line = 0; line <= MOST_CUT; line++) {
            guilty.line = line;
            innocent.line = line;
            long telling = guilty.casesOf(way, place) - innocent.casesOf(way, place);
            if (line == 0 || telling > bestTelling) {
                best = line;
                bestTelling = telling;
            }
        }
        return best;
    }

    public int nudged(int way) throws IllegalArgumentException, IllegalStateException {
        needRange(way, ONE_BY_ONE, AT_ONCE);
        int place = now.placeOf(SUSPECT);
        needState(place != NONE);
        innocent.look(now, false, true);
        long blindCases = innocent.casesOf(way, place);
        innocent.look(now, false, false);
        long more = innocent.casesOf(way, place) - blindCases;
        long all = innocent.allCases();
        return all == 0 ? 0 : (int) (100 * more / all);
    }

    public long print() {
        long sum = 0;
        for (int k = 0; k < now.shownCount; k++) {
            int person = now.order[k];
            sum = 31 * sum + person;
            sum = 31 * sum + now.mockPicks[person];
        }
        return 31 * sum + now.settings[CUT];
    }

    public int status(int what) {
        return what >= 0 && what < REASONS ? refused[what] : NONE;
    }

    private void putBytes(int number) {
        for (int shift = 24; shift >= 0; shift -= 8) {
            if (tapeBytes < tape.length) {
                tape[tapeBytes] = (byte) (number >> shift);
                tapeBytes++;
            }
        }
    }

    /** Keeps the lineup as it is ahead of an act, in place of the oldest one kept if there is no room. */
    private void keepPast() {
        if (acts == MOST_ACTS) {
            Lineup oldest = past[0];
            for (int k = 1; k < MOST_ACTS; k++) {
                past[k - 1] = past[k];
            }
            past[MOST_ACTS - 1] = oldest;
            acts--;
        }
        past[acts].copyFrom(now);
        acts++;
    }

    private void needPerson(int person) throws NoSuchElementException {
        if (person < 0 || person >= now.persons) {
            refused[MISSING]++;
            throw new NoSuchElementException("no such person");
        }
    }

    private void needTrait(int trait) throws NoSuchElementException {
        if (trait < 0 || trait >= now.traits) {
            refused[MISSING]++;
            throw new NoSuchElementException("no such trait");
        }
    }

    private void needPlace(int k) throws NoSuchElementException {
        if (k < 0 || k >= now.shownCount) {
            refused[MISSING]++;
            throw new NoSuchElementException("no such place");
        }
    }

    private void needRange(int number, int least, int most) throws IllegalArgumentException {
        if (number < least || number > most) {
            refused[WRONG_NUMBER]++;
            throw new IllegalArgumentException("no such number");
        }
    }

    private void needState(boolean fits) throws IllegalStateException {
        if (!fits) {
            refused[WRONG_STATE]++;
            throw new IllegalStateException("not as the persons are shown");
        }
    }

    /** Of a fraction in lowest terms (0 by 1, if the number above is 0): 0 the number above, else the one below. */
    private static long partOfFraction(long above, long below, int what) {
        if (above <= 0 || below <= 0) {
            return what == 0 ? 0 : 1;
        }
        long shared = commonDivisor(above, below);
        long whole = what == 0 ? above : below;
        return shared <= 0 ? whole : whole / shared;
    }

    private static long commonDivisor(long one, long other) {
        long a = one;
        long b = other;
        // Euclid's way needs under 100 rounds for any two longs.
        for (int k = 0; k < 200 && b != 0; k++) {
            long rest = a % b;
            a = b;
            b = rest;
        }
        return a;
    }

    private static int held(int number, int least, int most) {
        return Math.max(least, Math.min(most, number));
    }

    /** All that a text tells and that acts change. */
    private static final class Lineup {
        int traits = 0;
        int persons = 1;
        int shownCount = 0;
        final int[] values = new int[MOST_PERSONS * MOST_TRAITS];
        final int[] toldValues = new int[MOST_TRAITS];
        final int[] weights = new int[MOST_TRAITS];
        final int[] settings = new int[SETTINGS];
        final int[] order = new int[MOST_SHOWN];
        final int[] mockPicks = new int[MOST_PERSONS];
        // No act but text() changes a match, so each is worked out once, when the text is read.
        final int[] matches = new int[MOST_PERSONS];
        final int[] guiltMatches = new int[MOST_PERSONS];

        Lineup() {
            clear();
        }

        void clear() {
            traits = 0;
            persons = 1;
            shownCount = 0;
            for (int k = 0; k < MOST_TRAITS; k++) {
                toldValues[k] = NONE;
                weights[k] = 0;
            }
            for (int k = 0; k < SETTINGS; k++) {
                settings[k] = USUAL_SETTING[k];
            }
            for (int k = 0; k < MOST_PERSONS; k++) {
                mockPicks[k] = 0;
            }
        }

        void copyFrom(Lineup other) {
            traits = other.traits;
            persons = other.persons;
            shownCount = other.shownCount;
            System.arraycopy(other.values, 0, values, 0, MOST_PERSONS * MOST_TRAITS);
            System.arraycopy(other.toldValues, 0, toldValues, 0, MOST_TRAITS);
            System.arraycopy(other.weights, 0, weights, 0, MOST_TRAITS);
            System.arraycopy(other.settings, 0, settings, 0, SETTINGS);
            System.arraycopy(other.order, 0, order, 0, MOST_SHOWN);
            System.arraycopy(other.mockPicks, 0, mockPicks, 0, MOST_PERSONS);
            System.arraycopy(other.matches, 0, matches, 0, MOST_PERSONS);
            System.arraycopy(other.guiltMatches, 0, guiltMatches, 0, MOST_PERSONS);
        }

        int valueOf(int person, int trait) {
            return values[person * MOST_TRAITS + trait];
        }

        void setValue(int person, int trait, int number) {
            values[person * MOST_TRAITS + trait] = number;
        }

        int matchOf(int person, boolean guilt) {
            return guilt ? guiltMatches[person] : matches[person];
        }

        int differenceOf(int person, int trait, boolean guilt) {
            if (weights[trait] == 0) {
                return 0;
            }
            int due = guilt ? values[SUSPECT * MOST_TRAITS + trait] : toldValues[trait];
            return Math.abs(values[person * MOST_TRAITS + trait] - due);
        }

        void showFirst() {
            shownCount = Math.min(persons, MOST_SHOWN);
            for (int k = 0; k < shownCount; k++) {
                order[k] = k;
            }
        }

        int placeOf(int person) {
            for (int k = 0; k < shownCount; k++) {
                if (order[k] == person) {
                    return k;
                }
            }
            return NONE;
        }

        void showLast(int person) {
            if (shownCount < MOST_SHOWN) {
                order[shownCount] = person;
                shownCount++;
            }
        }

        void hideAt(int place) {
            for (int k = place + 1; k < shownCount; k++) {
                order[k - 1] = order[k];
            }
            shownCount--;
        }

        int allMockPicks() {
            int sum = 0;
            for (int k = 0; k < persons; k++) {
                sum += mockPicks[k];
            }
            return sum;
        }
    }

    /** The formula of a text, as steps over a stack, the operands ahead of what joins them. */
    private static final class Formula {
        static final int NUMBER = 0;
        static final int VALUE = 1;
        static final int OFF = 2;
        static final int WEIGHT = 3;
        static final int NEGATE = 4;
        static final int ADD = 5;
        static final int SUBTRACT = 6;
        static final int MULTIPLY = 7;
        private static final int KIND_SHIFT = 7;
        private static final int OPERAND_MASK = 127;
        private static final long FAR = 1000000L;
        // Each level of brackets holds a sum and a product open: 2 times 5 levels, and one more.
        private static final int STACK = 16;

        private final int[] steps = new int[MOST_BYTES];
        private final long[] stack = new long[STACK];
        private int count = 0;

        void clear() {
            count = 0;
        }

        void add(int kind, int operand) {
            if (count < steps.length) {
                steps[count] = kind << KIND_SHIFT | operand;
                count++;
            }
        }

        /** Works out all matches of a lineup, by the plain rule if there is no formula. */
        void rate(Lineup lineup) {
            for (int person = 0; person < lineup.persons; person++) {
                lineup.matches[person] = rateOne(lineup, person, false);
                lineup.guiltMatches[person] = rateOne(lineup, person, true);
            }
        }

        private int rateOne(Lineup lineup, int person, boolean guilt) {
            int rate = count == 0 ? plainRate(lineup, person, guilt) : (int) run(lineup, person, guilt);
            return held(rate, 0, MOST_MATCH);
        }

        private static int plainRate(Lineup lineup, int person, boolean guilt) {
            int sum = 0;
            for (int trait = 0; trait < lineup.traits; trait++) {
                sum += lineup.weights[trait] * (MOST_VALUE - lineup.differenceOf(person, trait, guilt));
            }
            return sum;
        }

        private long run(Lineup lineup, int person, boolean guilt) {
            int top = 0;
            for (int k = 0; k < count; k++) {
                int kind = steps[k] >> KIND_SHIFT;
                int operand = steps[k] & OPERAND_MASK;
                if (kind == NUMBER && top < STACK) {
                    stack[top] = operand;
                    top++;
                } else if (kind < NEGATE && top < STACK && operand < MOST_TRAITS) {
                    stack[top] = ofTrait(kind, operand, lineup, person, guilt);
                    top++;
                } else if (kind == NEGATE && top >= 1) {
                    stack[top - 1] = -stack[top - 1];
                } else if (kind > NEGATE && top >= 2) {
                    top--;
                    stack[top - 1] = joined(kind, stack[top - 1], stack[top]);
                }
            }
            return stack[0];
        }

        private static long ofTrait(int kind, int trait, Lineup lineup, int person, boolean guilt) {
            if (kind == VALUE) {
                return lineup.valueOf(person, trait);
            }
            return kind == OFF ? lineup.differenceOf(person, trait, guilt) : lineup.weights[trait];
        }

        private static long joined(int kind, long left, long right) {
            long result = left * right;
            if (kind == ADD) {
                result = left + right;
            } else if (kind == SUBTRACT) {
                result = left - right;
            }
            return Math.max(-FAR, Math.min(FAR, result));
        }
    }

    /** A text cut into words, numbers and signs; the last one is its end. */
    private static final class Tokens {
        private static final int END = 0;
        private static final int WORD = 1;
        private static final int NUMBER = 2;
        private static final int SIGN = 3;
        private static final int BLANK = 32;
        // Far above all numbers that may stand in a text, so that many digits stay too great.
        private static final int TOO_GREAT = 1000;

        private final int[] kinds = new int[MOST_BYTES + 1];
        private final int[] places = new int[MOST_BYTES + 1];
        // A word's length, a number, or a sign's byte.
        private final int[] contents = new int[MOST_BYTES + 1];
        private int count = 0;
        private byte[] bytes = new byte[0];
        private int length = 0;

        void scan(byte[] source, int sourceLength) {
            bytes = source;
            length = held(sourceLength, 0, Math.min(MOST_BYTES, source.length));
            count = 0;
            int place = 0;
            for (int k = 0; k < MOST_BYTES && place < length; k++) {
                if (bytes[place] == BLANK) {
                    place++;
                } else {
                    place = scanOne(place);
                }
            }
            put(END, length, 0);
        }

        private int scanOne(int from) {
            int place = from;
            if (isLetter(from)) {
                while (place < length && isLetter(place)) {
                    place++;
                }
                put(WORD, from, place - from);
                return place;
            }
            if (!isDigit(from)) {
                put(SIGN, from, bytes[from]);
                return from + 1;
            }
            int number = 0;
            while (place < length && isDigit(place)) {
                number = Math.min(TOO_GREAT, 10 * number + bytes[place] - '0');
                place++;
            }
            put(NUMBER, from, number);
            return place;
        }

        private void put(int kind, int place, int content) {
            if (count < kinds.length) {
                kinds[count] = kind;
                places[count] = place;
                contents[count] = content;
                count++;
            }
        }

        private boolean isLetter(int place) {
            return bytes[place] >= 'a' && bytes[place] <= 'z';
        }

        private boolean isDigit(int place) {
            return bytes[place] >= '0' && bytes[place] <= '9';
        }

        boolean isEnd(int k) {
            return k >= count || kinds[k] == END;
        }

        boolean isSign(int k, char sign) {
            return k < count && kinds[k] == SIGN && contents[k] == sign;
        }

        boolean isNumber(int k) {
            return k < count && kinds[k] == NUMBER;
        }

        boolean isWord(int k, String word) {
            if (k >= count || kinds[k] != WORD || contents[k] != word.length()) {
                return false;
            }
            for (int j = 0; j < contents[k]; j++) {
                if (bytes[places[k] + j] != word.charAt(j)) {
                    return false;
                }
            }
            return true;
        }

        int placeAt(int k) {
            return k < count ? places[k] : length;
        }

        int contentAt(int k) {
            return k < count ? contents[k] : 0;
        }
    }

    /** Reads a text from left to right into a draft, up to its first fault. */
    private static final class Reader {
        static final int FINE = 0;
        private static final int CANNOT_STAND = 1;
        private static final int NO_SUCH_NUMBER = 2;
        private static final int TOO_MANY_FILLERS = 3;
        private static final int TOO_DEEP = 4;
        private static final int NO_SUSPECT = 5;
        private static final int MOST_DEPTH = 4;
        private static final int MOST_NUMBER = 99;
        private static final int SUSPECT_BIT = 1 << SETTINGS;
        private static final int MATCH_BIT = 2 << SETTINGS;

        final Lineup draft = new Lineup();
        final Formula formula = new Formula();
        int faultPlace = NONE;
        private final Tokens tokens = new Tokens();
        private int faultKind = FINE;
        private int at = 0;
        // What may stand once and has stood: bits of settings, of the suspect, of the formula.
        private int seen = 0;

        /** The kind of the fault, or FINE: then the draft is whole. */
        int read(byte[] bytes, int length) {
            tokens.scan(bytes, length);
            draft.clear();
            formula.clear();
            faultKind = FINE;
            at = 0;
            seen = 0;
            boolean going = readTraits();
            for (int k = 0; k < MOST_BYTES && going && !tokens.isEnd(at); k++) {
                going = readPart() && readSign(';');
            }
            if (faultKind == FINE && (seen & SUSPECT_BIT) == 0) {
                fail(NO_SUSPECT);
            }
            // Reading stops at a fault, so that it still stands where the fault is.
            faultPlace = faultKind == FINE ? NONE : tokens.placeAt(at);
            if (faultKind == FINE) {
                formula.rate(draft);
                draft.showFirst();
            }
            return faultKind;
        }

        private boolean fail(int kind) {
            faultKind = kind;
            return false;
        }

        private boolean readTraits() {
            if (!tokens.isWord(at, "traits")) {
                return fail(CANNOT_STAND);
            }
            at++;
            int number = readNumber(1, MOST_TRAITS);
            if (number == NONE) {
                return false;
            }
            draft.traits = number;
            return readSign(';');
        }

        private boolean readPart() {
            if (tokens.isWord(at, "filler")) {
                return readFiller();
            }
            if (tokens.isWord(at, "told")) {
                at++;
                return readTold();
            }
            if (tokens.isWord(at, "suspect")) {
                return readOnce(SUSPECT_BIT) && readValues(SUSPECT);
            }
            if (tokens.isWord(at, "match")) {
                return readOnce(MATCH_BIT) && readSum(0);
            }
            int what = settingAt();
            if (what == NONE) {
                return fail(CANNOT_STAND);
            }
            return readOnce(1 << what) && readSetting(what);
        }

        private int settingAt() {
            if (tokens.isWord(at, "noise")) {
                return NOISE;
            }
            if (tokens.isWord(at, "cut")) {
                return CUT;
            }
            if (tokens.isWord(at, "nudge")) {
                return NUDGE;
            }
            return tokens.isWord(at, "prior") ? PRIOR : NONE;
        }

        private boolean readOnce(int bit) {
            if ((seen & bit) != 0) {
                return fail(CANNOT_STAND);
            }
            seen |= bit;
            at++;
            return true;
        }

        private boolean readSetting(int what) {
            int number = readNumber(LEAST_SETTING[what], MOST_SETTING[what]);
            if (number == NONE) {
                return false;
            }
            draft.settings[what] = number;
            return true;
        }

        private boolean readFiller() {
            if (draft.persons >= MOST_PERSONS) {
                return fail(TOO_MANY_FILLERS);
            }
            at++;
            draft.persons++;
            return readValues(draft.persons - 1);
        }

        private boolean readValues(int person) {
            for (int trait = 0; trait < draft.traits; trait++) {
                int number = readNumber(0, MOST_VALUE);
                if (number == NONE) {
                    return false;
                }
                draft.setValue(person, trait, number);
            }
            return true;
        }

        private boolean readTold() {
            int trait = readNumber(0, draft.traits - 1);
            int number = trait == NONE ? NONE : readNumber(0, MOST_VALUE);
            int weight = number == NONE ? NONE : readNumber(1, MOST_WEIGHT);
            if (weight == NONE) {
                return false;
            }
            draft.toldValues[trait] = number;
            draft.weights[trait] = weight;
            return true;
        }

        private boolean readSign(char sign) {
            if (!tokens.isSign(at, sign)) {
                return fail(CANNOT_STAND);
            }
            at++;
            return true;
        }

        /** A number from least to most, or NONE behind a fault. */
        private int readNumber(int least, int most) {
            if (!tokens.isNumber(at)) {
                fail(CANNOT_STAND);
                return NONE;
            }
            int number = tokens.contentAt(at);
            if (number < least || number > most) {
                fail(NO_SUCH_NUMBER);
                return NONE;
            }
            at++;
            return number;
        }

        private boolean readSum(int depth) {
            boolean going = readProduct(depth);
            for (int k = 0; k < MOST_BYTES && going; k++) {
                boolean plus = tokens.isSign(at, '+');
                if (!plus && !tokens.isSign(at, '-')) {
                    return true;
                }
                at++;
                going = readProduct(depth);
                formula.add(plus ? Formula.ADD : Formula.SUBTRACT, 0);
            }
            return going;
        }

        private boolean readProduct(int depth) {
            boolean going = readUnit(depth);
            for (int k = 0; k < MOST_BYTES && going && tokens.isSign(at, '*'); k++) {
                at++;
                going = readUnit(depth);
                formula.add(Formula.MULTIPLY, 0);
            }
            return going;
        }

        private boolean readUnit(int depth) {
            boolean minus = tokens.isSign(at, '-');
            if (!minus && !tokens.isSign(at, '(')) {
                return readLeaf();
            }
            if (depth >= MOST_DEPTH) {
                return fail(TOO_DEEP);
            }
            at++;
            if (!minus) {
                return readSum(depth + 1) && readSign(')');
            }
            boolean going = readUnit(depth + 1);
            formula.add(Formula.NEGATE, 0);
            return going;
        }

        private boolean readLeaf() {
            int kind = leafKindAt();
            if (kind == NONE) {
                return fail(CANNOT_STAND);
            }
            if (kind != Formula.NUMBER) {
                at++;
            }
            int number = readNumber(0, kind == Formula.NUMBER ? MOST_NUMBER : draft.traits - 1);
            if (number == NONE) {
                return false;
            }
            formula.add(kind, number);
            return true;
        }

        private int leafKindAt() {
            if (tokens.isNumber(at)) {
                return Formula.NUMBER;
            }
            if (tokens.isWord(at, "value")) {
                return Formula.VALUE;
            }
            if (tokens.isWord(at, "off")) {
                return Formula.OFF;
            }
            return tokens.isWord(at, "weight") ? Formula.WEIGHT : NONE;
        }
    }

    /** A witness before those who are shown: counts, of all cases of noise, those of a pick. */
    private static final class Witness {
        /** The cut by which it picks. */
        int line = 0;
        private final int[] feelings = new int[MOST_SHOWN];
        private int people = 0;
        private int noise = 0;
        private int width = 1;

        void look(Lineup lineup, boolean guilt, boolean blind) {
            people = lineup.shownCount;
            noise = lineup.settings[NOISE];
            width = 2 * noise + 1;
            line = lineup.settings[CUT];
            for (int k = 0; k < people; k++) {
                int person = lineup.order[k];
                int more = person == SUSPECT && !blind ? lineup.settings[NUDGE] : 0;
                feelings[k] = lineup.matchOf(person, guilt) + more;
            }
        }

        /** At most 11 by 8 times: far within a long. */
        long allCases() {
            return power(people);
        }

        long casesOfNobody() {
            return casesAllBelow(people);
        }

        /** Cases in which the one at a place is picked; none for somebody who is not shown. */
        long casesOf(int way, int place) {
            if (place < 0 || place >= people) {
                return 0;
            }
            return way == ONE_BY_ONE ? casesOneByOne(place) : casesAtOnce(place);
        }

        private long casesOneByOne(int place) {
            long own = width - casesBelow(place, line);
            return casesAllBelow(place) * own * power(people - place - 1);
        }

        private long casesAtOnce(int place) {
            long sum = 0;
            for (int shift = -noise; shift <= noise; shift++) {
                int feeling = feelings[place] + shift;
                if (feeling >= line) {
                    sum += casesGreatest(place, feeling);
                }
            }
            return sum;
        }

        /** Cases of all others in which a feeling at a place wins: of equal ones the first shown does. */
        private long casesGreatest(int place, int feeling) {
            long cases = 1;
            for (int k = 0; k < people; k++) {
                if (k != place) {
                    cases *= casesBelow(k, k < place ? feeling : feeling + 1);
                }
            }
            return cases;
        }

        private long casesAllBelow(int end) {
            long cases = 1;
            for (int k = 0; k < end; k++) {
                cases *= casesBelow(k, line);
            }
            return cases;
        }

        private int casesBelow(int place, int limit) {
            return held(limit - feelings[place] + noise, 0, width);
        }

        private long power(int times) {
            long result = 1;
            for (int k = 0; k < times; k++) {
                result *= width;
            }
            return result;
        }
    }

    /** Looks for the fillers by which a lineup is fairest. */
    private static final class Chooser {
        int bestSet = 0;
        long bestSum = 0;
        long bestSquares = 0;
        private boolean found = false;
        private int persons = 0;
        private final int[] matches = new int[MOST_PERSONS];

        void chooseFrom(Lineup lineup, int fillers) {
            found = false;
            persons = lineup.persons;
            System.arraycopy(lineup.matches, 0, matches, 0, MOST_PERSONS);
            long own = matches[SUSPECT];
            addFillers(1, fillers, 0, own, own * own);
        }

        /** Tries all sets with so many more fillers; at most 7 are left, so it goes no deeper. */
        private void addFillers(int from, int left, int set, long sum, long squares) {
            if (left <= 0) {
                weigh(set, sum, squares);
                return;
            }
            for (int k = from; k + left <= persons; k++) {
                long more = matches[k];
                addFillers(k + 1, left - 1, set | 1 << k, sum + more, squares + more * more);
            }
        }

        private void weigh(int set, long sum, long squares) {
            // Without any match the size is 0 by 1.
            long below = Math.max(1, squares);
            long one = sum * sum * bestSquares;
            long other = bestSum * bestSum * below;
            if (!found || one > other || one == other && set < bestSet) {
                found = true;
                bestSet = set;
                bestSum = sum;
                bestSquares = below;
            }
        }
    }
}
