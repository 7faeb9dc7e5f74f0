/** Tried by one's later selves: the verdict on a deed is given by who that verdict makes of one. */
public final class LaterJury {
    public static final int BAD = -1, STATE = -2, FULL = -3, NONE = -9;
    public static final int NO = -1000000;

    private static final int MOST_BYTES = 200;
    private static final int LEAST_YEARS = 2, MOST_YEARS = 16, YEARS_AT_FIRST = 12;
    private static final int MOST_STATES = 6, MOST_TRIALS = 3, MOST_DEEDS = 4;
    private static final int MOST_LEAN = 18, LEAN_LESS = 9, MOST_QUORUM = 9, QUORUM_AT_FIRST = 1;
    private static final int MOST_DONE = 6, MOST_KNOWN = 10, MOST_SEEN = 6, IMAGES = 2;
    private static final int HUNG = 0, GUILTY = 1, ACQUITTED = 2, VERDICTS = 3;
    private static final int MOST_ROWS = 27;
    private static final int NOT_ONE = -5;
    private static final int FAULT_BASE = -10;
    private static final int[] ROWS_BY_TRIALS = {1, 3, 9, 27};

    private final int[] text = new int[MOST_BYTES];
    private int textLength = 0;
    // A text with a fault must change nothing: it is read into the draft, which takes the place of what was told.
    private Told told = new Told();
    private Told draft = new Told();
    private final Reader reader = new Reader();
    private final Lives lives = new Lives();
    private final Helper helper = new Helper();
    private final History history = new History();
    private final History[] images = new History[IMAGES];
    private final boolean[] kept = new boolean[IMAGES];
    private final int[] seenYear = new int[MOST_SEEN];
    private final int[] seenState = new int[MOST_SEEN];
    private int seen = 0;
    private long traced = 0;

    public LaterJury() {
        for (int i = 0; i < IMAGES; i++) {
            images[i] = new History();
        }
    }

    // ---- the life

    public int type(int c) {
        if (c < 0 || c > 255) {
            return BAD;
        }
        if (textLength >= MOST_BYTES) {
            return FULL;
        }
        text[textLength] = c;
        textLength++;
        return textLength;
    }

    public int clear() {
        int had = textLength;
        textLength = 0;
        return had;
    }

    public int court() {
        draft.reset();
        int items = reader.readAll(text, textLength, draft);
        if (items < 0) {
            return items;
        }
        Told old = told;
        told = draft;
        draft = old;
        textLength = 0;
        seen = 0;
        history.reset();
        for (int i = 0; i < IMAGES; i++) {
            kept[i] = false;
        }
        helper.forgetAnswers();
        return items;
    }

    public int state(int s, int what) {
        if (!isState(s) || what < 0 || what > 4) {
            return NO;
        }
        if (what == 0) {
            return told.lean[s];
        }
        if (what == 1) {
            return told.dead[s];
        }
        return told.becomes[s * VERDICTS + what - 2];
    }

    public int trial(int t, int what) {
        if (!isTrial(t)) {
            return BAD;
        }
        switch (what) {
            case 0: return told.trialYear[t];
            case 1: return told.juryFrom[t];
            case 2: return told.juryTo[t];
            default: return BAD;
        }
    }

    public int deed(int d, int what) {
        if (!isDeed(d)) {
            return BAD;
        }
        switch (what) {
            case 0: return told.deedFrom[d];
            case 1: return told.deedTo[d];
            default: return BAD;
        }
    }

    // ---- deeds

    public int does(int year, int d) {
        if (!isYear(year) || !isDeed(d)) {
            return BAD;
        }
        if (history.now.size >= MOST_DONE) {
            return FULL;
        }
        history.remember();
        history.now.append(year, d);
        helper.forgetAnswers();
        return history.now.size;
    }

    public int takes(int i) {
        if (i < 0 || i >= history.now.size) {
            return BAD;
        }
        history.remember();
        history.now.removeAt(i);
        helper.forgetAnswers();
        return history.now.size;
    }

    public int done(int i, int what) {
        if (i < 0 || i >= history.now.size) {
            return BAD;
        }
        switch (what) {
            case 0: return history.now.year[i];
            case 1: return history.now.kind[i];
            default: return BAD;
        }
    }

    public int undo() {
        if (history.known <= 0) {
            return STATE;
        }
        history.goBack();
        helper.forgetAnswers();
        return history.known;
    }

    // ---- lives

    public int lives() {
        lives.prepare(told, history.now);
        return lives.howMany();
    }

    public int verdict(int i, int t) {
        if (!isTrial(t) || !findLife(i)) {
            return BAD;
        }
        return lives.verdict[t];
    }

    public int self(int i, int year) {
        if (!isYear(year) || !findLife(i)) {
            return BAD;
        }
        return lives.self[year];
    }

    public int sure(int t) {
        if (!isTrial(t)) {
            return BAD;
        }
        lives.prepare(told, history.now);
        return lives.sureVerdict(t);
    }

    public int who(int year) {
        if (!isYear(year)) {
            return BAD;
        }
        lives.prepare(told, history.now);
        int rows = lives.rows();
        int bits = 0;
        for (int row = 0; row < rows; row++) {
            if (lives.isLife(row)) {
                bits |= 1 << lives.self[year];
            }
        }
        return bits;
    }

    public int ring(int what) {
        if (what != 0 && what != 1) {
            return BAD;
        }
        lives.prepare(told, history.now);
        return lives.ringPart(what);
    }

    // ---- help, strikes

    public int help(int t, int what) {
        if (!isTrial(t) || what < 0 || what > 2) {
            return BAD;
        }
        if (!helper.known[t]) {
            lives.prepare(told, history.now);
            helper.search(lives, t);
        }
        switch (what) {
            case 0: return helper.howMany[t];
            case 1: return helper.first[t];
            default: return helper.second[t];
        }
    }

    public int strikes(int i, int t, int k) {
        if (!isTrial(t) || k < 1 || k > 9 || !findLife(i)) {
            return NO;
        }
        int jurors = lives.seatJury(t);
        if (jurors < k) {
            return NO;
        }
        return lives.leanBehindStrikes(jurors, k);
    }

    public int innocent(int t) {
        return isTrial(t) ? innocentBits(t) : BAD;
    }

    public int odds(int t, int what) {
        if (!isTrial(t) || (what != 0 && what != 1)) {
            return BAD;
        }
        if (told.states == 0) {
            return STATE;
        }
        int upper = Integer.bitCount(innocentBits(t));
        int divisor = commonDivisor(upper, told.states);
        if (divisor == 0) {
            return STATE;
        }
        return what == 0 ? upper / divisor : told.states / divisor;
    }

    // ---- what was seen, laws

    public int saw(int year, int s) {
        if (!isYear(year) || !isState(s)) {
            return BAD;
        }
        if (seen >= MOST_SEEN) {
            return FULL;
        }
        seenYear[seen] = year;
        seenState[seen] = s;
        seen++;
        return seen;
    }

    public int forget() {
        int had = seen;
        seen = 0;
        return had;
    }

    public int fits() {
        lives.prepare(told, history.now);
        int bits = 0;
        for (int s = 0; s < told.states; s++) {
            lives.begin = s;
            if (someLifeFits()) {
                bits |= 1 << s;
            }
        }
        return bits;
    }

    public int quorum(int k) {
        if (k < 1 || k > MOST_QUORUM) {
            return BAD;
        }
        lives.prepare(told, history.now);
        lives.quorum = k;
        return lives.howMany();
    }

    // ---- kinds, images

    public int mark(int kind, int s) {
        if (!isState(s)) {
            return NO;
        }
        switch (kind) {
            case 0: return markOfSelf(s);
            case 1: return markOfChild(s);
            case 2: return markOfElder(s);
            case 3: return markOfBitter(s);
            case 4: return markOfLenient(s);
            case 5: return markOfGhost(s);
            default: return NO;
        }
    }

    public int keep(int image) {
        if (image < 0 || image >= IMAGES) {
            return BAD;
        }
        images[image].copyFrom(history);
        kept[image] = true;
        return history.now.size;
    }

    public int back(int image) {
        if (image < 0 || image >= IMAGES) {
            return BAD;
        }
        if (!kept[image]) {
            return STATE;
        }
        history.copyFrom(images[image]);
        helper.forgetAnswers();
        return history.now.size;
    }

    public int count(int what) {
        switch (what) {
            case 0: return told.years;
            case 1: return told.states;
            case 2: return told.trials;
            case 3: return told.deeds;
            case 4: return history.now.size;
            case 5: return told.beginning();
            case 6: return told.quorum;
            case 7: return seen;
            case 8: return history.known;
            case 9: return textLength;
            default: return BAD;
        }
    }

    public long trace() {
        return traced;
    }

    // ---- what the calls share

    private boolean isYear(int year) {
        return year >= 0 && year < told.years;
    }

    private boolean isState(int s) {
        return s >= 0 && s < told.states;
    }

    private boolean isTrial(int t) {
        return t >= 0 && t < told.trials;
    }

    private boolean isDeed(int d) {
        return d >= 0 && d < told.deeds;
    }

    private boolean findLife(int i) {
        lives.prepare(told, history.now);
        return lives.find(i);
    }

    private int innocentBits(int t) {
        lives.prepare(told, history.now);
        int bits = 0;
        for (int s = 0; s < told.states; s++) {
            lives.begin = s;
            if (lives.surelyAcquitted(t)) {
                bits |= 1 << s;
            }
        }
        return bits;
    }

    private boolean someLifeFits() {
        int rows = lives.rows();
        for (int row = 0; row < rows; row++) {
            if (lives.isLife(row) && allSeenIsSo()) {
                return true;
            }
        }
        return false;
    }

    private boolean allSeenIsSo() {
        for (int i = 0; i < seen; i++) {
            if (lives.self[seenYear[i]] != seenState[i]) {
                return false;
            }
        }
        return true;
    }

    private static int commonDivisor(int a, int b) {
        int greater = a;
        int lesser = b;
        // lesser falls with each turn, so that b turns are enough
        for (int turn = 0; turn < b && lesser > 0; turn++) {
            int rest = greater % lesser;
            greater = lesser;
            lesser = rest;
        }
        return greater;
    }

    private int markOfSelf(int s) {
        traced += 1;
        return told.lean[s];
    }

    private int markOfChild(int s) {
        traced += 10;
        return markOfSelf(s) + told.becomes[s * VERDICTS + HUNG];
    }

    private int markOfElder(int s) {
        traced += 100;
        return markOfSelf(s) - history.now.size;
    }

    private int markOfBitter(int s) {
        traced += 1000;
        return markOfChild(s) * 2;
    }

    private int markOfLenient(int s) {
        traced += 10000;
        return markOfElder(s) + told.trials;
    }

    private int markOfGhost(int s) {
        traced += 100000;
        return markOfSelf(s) + told.dead[s] * 9;
    }

    /** What a text tells: years, states, the beginning, trials, the quorum, kinds of deeds. */
    private static final class Told {
        int years = YEARS_AT_FIRST;
        int states = 0;
        int begin = 0;
        int trials = 0;
        int deeds = 0;
        int quorum = QUORUM_AT_FIRST;
        final int[] lean = new int[MOST_STATES];
        final int[] dead = new int[MOST_STATES];
        /** Three for each state, by verdict; as told, so it may name a state that there is not. */
        final int[] becomes = new int[MOST_STATES * VERDICTS];
        final int[] trialYear = new int[MOST_TRIALS];
        final int[] juryFrom = new int[MOST_TRIALS];
        final int[] juryTo = new int[MOST_TRIALS];
        final int[] deedFrom = new int[MOST_DEEDS];
        final int[] deedTo = new int[MOST_DEEDS];

        void reset() {
            years = YEARS_AT_FIRST;
            states = 0;
            begin = 0;
            trials = 0;
            deeds = 0;
            quorum = QUORUM_AT_FIRST;
        }

        int beginning() {
            return begin < states ? begin : 0;
        }
    }

    /** Reads a text; where it can't go on, the place of the token that it looks at is the fault. */
    private static final class Reader {
        static final int END = 0, LETTERS = 1, NUMBER = 2, STOP = 3, WRONG = 4;

        int[] bytes = new int[0];
        int length = 0;
        int place = 0;
        int token = END;
        int tokenPlace = 0;
        int tokenValue = 0;
        boolean yearsTold = false;
        boolean beginTold = false;
        boolean quorumTold = false;
        final int[] numbers = new int[5];

        /** How many items, or FAULT_BASE less the fault. */
        int readAll(int[] from, int size, Told into) {
            bytes = from;
            length = Math.min(size, from.length);
            place = 0;
            yearsTold = false;
            beginTold = false;
            quorumTold = false;
            int items = 0;
            while (items <= length) {
                nextToken();
                if (token == END) {
                    return items;
                }
                if (!readItem(into)) {
                    return FAULT_BASE - tokenPlace;
                }
                items++;
            }
            return FAULT_BASE - tokenPlace;
        }

        boolean readItem(Told into) {
            int letter = token == LETTERS ? tokenValue : 0;
            if (!mayBegin(letter, into)) {
                return false;
            }
            int size = numbersOf(letter);
            for (int i = 0; i < size; i++) {
                nextToken();
                if (token != NUMBER || tokenValue < least(letter, i, into) || tokenValue > most(letter, i, into)) {
                    return false;
                }
                numbers[i] = tokenValue;
            }
            nextToken();
            if (token != STOP) {
                return false;
            }
            take(letter, into);
            return true;
        }

        boolean mayBegin(int letter, Told into) {
            switch (letter) {
                case 'y': return !yearsTold && into.trials == 0;
                case 's': return into.states < MOST_STATES;
                case 'b': return !beginTold;
                case 't': return into.trials < MOST_TRIALS;
                case 'q': return !quorumTold;
                case 'd': return into.deeds < MOST_DEEDS;
                default: return false;
            }
        }

        static int numbersOf(int letter) {
            switch (letter) {
                case 's': return 5;
                case 't': return 3;
                case 'd': return 2;
                default: return 1;
            }
        }

        int least(int letter, int i, Told into) {
            switch (letter) {
                case 'y': return LEAST_YEARS;
                case 'q': return 1;
                case 't': return leastOfTrial(i, into);
                default: return 0;
            }
        }

        int leastOfTrial(int i, Told into) {
            if (i == 0) {
                return into.trials == 0 ? 0 : into.trialYear[into.trials - 1] + 1;
            }
            return i == 1 ? numbers[0] + 1 : numbers[1];
        }

        static int most(int letter, int i, Told into) {
            switch (letter) {
                case 'y': return MOST_YEARS;
                case 'q': return MOST_QUORUM;
                // a jury needs a year behind that of its trial
                case 't': return i == 0 ? into.years - 2 : into.years - 1;
                case 's': return i == 0 ? MOST_LEAN : i == 1 ? 1 : MOST_STATES - 1;
                default: return MOST_STATES - 1;
            }
        }

        void take(int letter, Told into) {
            switch (letter) {
                case 'y':
                    into.years = numbers[0];
                    yearsTold = true;
                    break;
                case 'b':
                    into.begin = numbers[0];
                    beginTold = true;
                    break;
                case 'q':
                    into.quorum = numbers[0];
                    quorumTold = true;
                    break;
                case 's':
                    takeState(into);
                    break;
                case 't':
                    takeTrial(into);
                    break;
                default:
                    takeDeed(into);
                    break;
            }
        }

        void takeState(Told into) {
            int s = into.states;
            into.lean[s] = numbers[0] - LEAN_LESS;
            into.dead[s] = numbers[1];
            for (int v = 0; v < VERDICTS; v++) {
                into.becomes[s * VERDICTS + v] = numbers[2 + v];
            }
            into.states++;
        }

        void takeTrial(Told into) {
            int t = into.trials;
            into.trialYear[t] = numbers[0];
            into.juryFrom[t] = numbers[1];
            into.juryTo[t] = numbers[2];
            into.trials++;
        }

        void takeDeed(Told into) {
            int d = into.deeds;
            into.deedFrom[d] = numbers[0];
            into.deedTo[d] = numbers[1];
            into.deeds++;
        }

        void nextToken() {
            while (place < length && bytes[place] == ' ') {
                place++;
            }
            tokenPlace = place;
            tokenValue = 0;
            if (place >= length) {
                token = END;
            } else if (isLetter(bytes[place])) {
                readLetters();
            } else if (isDigit(bytes[place])) {
                readNumber();
            } else {
                token = bytes[place] == ';' ? STOP : WRONG;
                place++;
            }
        }

        /** The value is the letter, if there is one alone: only such begin an item. */
        void readLetters() {
            token = LETTERS;
            while (place < length && isLetter(bytes[place])) {
                tokenValue = place == tokenPlace ? bytes[place] : 0;
                place++;
            }
        }

        void readNumber() {
            while (place < length && isDigit(bytes[place])) {
                // a value that is too great already need not grow, and could wrap around
                if (tokenValue <= 99) {
                    tokenValue = tokenValue * 10 + bytes[place] - '0';
                }
                place++;
            }
            boolean zeroAhead = bytes[tokenPlace] == '0' && place - tokenPlace > 1;
            token = zeroAhead || tokenValue > 99 ? WRONG : NUMBER;
        }

        static boolean isLetter(int c) {
            return c >= 'a' && c <= 'z';
        }

        static boolean isDigit(int c) {
            return c >= '0' && c <= '9';
        }
    }

    /** Deeds that are done, in their order. */
    private static final class Done {
        int size = 0;
        final int[] year = new int[MOST_DONE];
        final int[] kind = new int[MOST_DONE];

        void append(int inYear, int ofKind) {
            if (size >= MOST_DONE) {
                return;
            }
            year[size] = inYear;
            kind[size] = ofKind;
            size++;
        }

        void removeAt(int i) {
            for (int j = i; j + 1 < size; j++) {
                year[j] = year[j + 1];
                kind[j] = kind[j + 1];
            }
            size--;
        }

        void copyFrom(Done other) {
            size = other.size;
            for (int i = 0; i < size; i++) {
                year[i] = other.year[i];
                kind[i] = other.kind[i];
            }
        }
    }

    /** What is done now, and what was done ahead of each step that may be undone, the oldest first. */
    private static final class History {
        final Done now = new Done();
        final Done[] past = new Done[MOST_KNOWN];
        int known = 0;

        History() {
            for (int i = 0; i < MOST_KNOWN; i++) {
                past[i] = new Done();
            }
        }

        void reset() {
            now.size = 0;
            known = 0;
        }

        void remember() {
            if (known >= MOST_KNOWN) {
                loseOldest();
            }
            past[known].copyFrom(now);
            known++;
        }

        void loseOldest() {
            Done oldest = past[0];
            for (int i = 0; i + 1 < MOST_KNOWN; i++) {
                past[i] = past[i + 1];
            }
            // its room is used again: nothing is made after the constructor
            past[MOST_KNOWN - 1] = oldest;
            known = MOST_KNOWN - 1;
        }

        void goBack() {
            if (known <= 0) {
                return;
            }
            known--;
            now.copyFrom(past[known]);
        }

        void copyFrom(History other) {
            now.copyFrom(other.now);
            known = other.known;
            for (int i = 0; i < known; i++) {
                past[i].copyFrom(other.past[i]);
            }
        }
    }

    /**
     * All that can be lived. A row is a number that stands for verdicts of all trials, the first one's
     * weighing most, so that lives come in the order of their rows.
     */
    private static final class Lives {
        Told told = new Told();
        int begin = 0;
        int quorum = QUORUM_AT_FIRST;
        /** By state and verdict: who one is a year on. */
        final int[] yearOn = new int[MOST_STATES * VERDICTS];
        /** By year and state: who one is behind the year's deeds. */
        final int[] behindDeeds = new int[MOST_YEARS * MOST_STATES];
        final int[] self = new int[MOST_YEARS];
        final int[] verdict = new int[MOST_TRIALS];
        final int[] stepOfRow = new int[MOST_ROWS];
        final int[] jury = new int[MOST_YEARS];

        void prepare(Told what, Done done) {
            told = what;
            begin = told.beginning();
            quorum = told.quorum;
            for (int s = 0; s < told.states; s++) {
                prepareState(s);
            }
            for (int i = 0; i < done.size; i++) {
                addDeed(done.year[i], done.kind[i]);
            }
        }

        void prepareState(int s) {
            for (int v = 0; v < VERDICTS; v++) {
                int next = told.becomes[s * VERDICTS + v];
                yearOn[s * VERDICTS + v] = next < told.states ? next : s;
            }
            for (int year = 0; year < told.years; year++) {
                behindDeeds[year * MOST_STATES + s] = s;
            }
        }

        void addDeed(int year, int kind) {
            int from = told.deedFrom[kind];
            int to = told.deedTo[kind];
            if (to >= told.states) {
                return;
            }
            for (int s = 0; s < told.states; s++) {
                int at = year * MOST_STATES + s;
                if (behindDeeds[at] == from) {
                    behindDeeds[at] = to;
                }
            }
        }

        /** Without states there is no life, so no row either. */
        int rows() {
            return told.states == 0 ? 0 : ROWS_BY_TRIALS[told.trials];
        }

        int howMany() {
            int rows = rows();
            int found = 0;
            for (int row = 0; row < rows; row++) {
                if (isLife(row)) {
                    found++;
                }
            }
            return found;
        }

        /** The i-th life is then the one that was lived last. */
        boolean find(int i) {
            int rows = rows();
            int ahead = 0;
            for (int row = 0; row < rows; row++) {
                if (isLife(row)) {
                    if (ahead == i) {
                        return true;
                    }
                    ahead++;
                }
            }
            return false;
        }

        boolean isLife(int row) {
            giveVerdicts(row);
            return holds();
        }

        void giveVerdicts(int row) {
            int rest = row;
            for (int t = told.trials - 1; t >= 0; t--) {
                verdict[t] = rest % VERDICTS;
                rest /= VERDICTS;
            }
        }

        /** Each verdict is the word of the jury that the verdicts make. */
        boolean holds() {
            live();
            for (int t = 0; t < told.trials; t++) {
                if (juryWord(t) != verdict[t]) {
                    return false;
                }
            }
            return true;
        }

        void live() {
            int s = behindDeeds[begin];
            self[0] = s;
            int t = 0;
            for (int year = 1; year < told.years; year++) {
                int given = HUNG;
                if (t < told.trials && told.trialYear[t] == year - 1) {
                    given = verdict[t];
                    t++;
                }
                s = behindDeeds[year * MOST_STATES + yearOn[s * VERDICTS + given]];
                self[year] = s;
            }
        }

        int juryWord(int t) {
            int jurors = 0;
            int leans = 0;
            for (int year = told.juryFrom[t]; year <= told.juryTo[t]; year++) {
                int s = self[year];
                if (told.dead[s] == 0) {
                    jurors++;
                    leans += told.lean[s];
                }
            }
            if (jurors < quorum) {
                return HUNG;
            }
            return leans >= 0 ? ACQUITTED : GUILTY;
        }

        int sureVerdict(int t) {
            int rows = rows();
            int only = NONE;
            for (int row = 0; row < rows; row++) {
                if (isLife(row)) {
                    if (only != NONE && only != verdict[t]) {
                        return NOT_ONE;
                    }
                    only = verdict[t];
                }
            }
            return only;
        }

        boolean surelyAcquitted(int t) {
            // those that acquit come first: mostly none of them holds, and the others need not be lived
            return someLife(t, true) && !someLife(t, false);
        }

        boolean someLife(int t, boolean acquitted) {
            int rows = rows();
            for (int row = 0; row < rows; row++) {
                giveVerdicts(row);
                if ((verdict[t] == ACQUITTED) == acquitted && holds()) {
                    return true;
                }
            }
            return false;
        }

        /** 0: behind how many steps the verdicts come round, 1: how many of them do. */
        int ringPart(int part) {
            int rows = rows();
            for (int row = 0; row < rows; row++) {
                stepOfRow[row] = -1;
            }
            int row = 0;
            for (int step = 0; step <= rows && row < rows; step++) {
                if (stepOfRow[row] >= 0) {
                    return part == 0 ? stepOfRow[row] : step - stepOfRow[row];
                }
                stepOfRow[row] = step;
                row = rowOfWords(row);
            }
            return 0;
        }

        int rowOfWords(int row) {
            giveVerdicts(row);
            live();
            int next = 0;
            for (int t = 0; t < told.trials; t++) {
                next = next * VERDICTS + juryWord(t);
            }
            return next;
        }

        /** The leans of those that are not dead, the least first; how many they are. */
        int seatJury(int t) {
            int jurors = 0;
            for (int year = told.juryFrom[t]; year <= told.juryTo[t]; year++) {
                int s = self[year];
                if (told.dead[s] == 0) {
                    int seat = jurors;
                    for (; seat > 0 && jury[seat - 1] > told.lean[s]; seat--) {
                        jury[seat] = jury[seat - 1];
                    }
                    jury[seat] = told.lean[s];
                    jurors++;
                }
            }
            return jurors;
        }

        /**
         * No play is better than to strike the worst for oneself: whoever does so p times has struck,
         * or had struck for him, the p worst at least, whatever the other does. So the accuser takes
         * the greatest leans, the counsel the least, and the accuser, being first, one more if odd.
         */
        int leanBehindStrikes(int jurors, int left) {
            int byCounsel = (jurors - left) / 2;
            int leans = 0;
            for (int i = byCounsel; i < byCounsel + left && i < jurors; i++) {
                leans += jury[i];
            }
            return leans;
        }

        /** By year: states (bits) that one can be in behind its deeds by any verdicts, lived or not. */
        void reach(int[] reached) {
            int now = told.states == 0 ? 0 : 1 << behindDeeds[begin];
            reached[0] = now;
            int t = 0;
            for (int year = 1; year < told.years; year++) {
                int verdicts = 1;
                if (t < told.trials && told.trialYear[t] == year - 1) {
                    verdicts = VERDICTS;
                    t++;
                }
                now = reachNext(now, year, verdicts);
                reached[year] = now;
            }
        }

        int reachNext(int now, int year, int verdicts) {
            int next = 0;
            for (int s = 0; s < told.states; s++) {
                if ((now >> s & 1) == 1) {
                    for (int v = 0; v < verdicts; v++) {
                        next |= 1 << behindDeeds[year * MOST_STATES + yearOn[s * VERDICTS + v]];
                    }
                }
            }
            return next;
        }

        void saveYear(int year, int[] into) {
            for (int s = 0; s < MOST_STATES; s++) {
                into[s] = behindDeeds[year * MOST_STATES + s];
            }
        }

        void restoreYear(int year, int[] from) {
            for (int s = 0; s < MOST_STATES; s++) {
                behindDeeds[year * MOST_STATES + s] = from[s];
            }
        }
    }

    /** Searches the fewest deeds that help, and knows them till something changes. */
    private static final class Helper {
        final boolean[] known = new boolean[MOST_TRIALS];
        final int[] howMany = new int[MOST_TRIALS];
        final int[] first = new int[MOST_TRIALS];
        final int[] second = new int[MOST_TRIALS];
        final int[] yearAheadOfFirst = new int[MOST_STATES];
        final int[] yearAheadOfSecond = new int[MOST_STATES];
        final int[] reachedAhead = new int[MOST_YEARS];
        final int[] reachedByFirst = new int[MOST_YEARS];

        void forgetAnswers() {
            for (int t = 0; t < MOST_TRIALS; t++) {
                known[t] = false;
            }
        }

        void search(Lives lives, int t) {
            answer(t, NONE, NONE, NONE);
            if (lives.surelyAcquitted(t)) {
                answer(t, 0, NOT_ONE, NOT_ONE);
                return;
            }
            lives.reach(reachedAhead);
            if (!searchOne(lives, t)) {
                searchTwo(lives, t);
            }
        }

        void answer(int t, int many, int one, int other) {
            known[t] = true;
            howMany[t] = many;
            first[t] = one;
            second[t] = other;
        }

        /** A deed that changes nobody changes no life: without it as much is reached by fewer. */
        static boolean changesSomebody(Told told, int kind, int reachedInYear) {
            int from = told.deedFrom[kind];
            int to = told.deedTo[kind];
            return from != to && to < told.states && (reachedInYear >> from & 1) == 1;
        }

        static int code(int year, int kind) {
            return 10 * year + kind;
        }

        boolean searchOne(Lives lives, int t) {
            Told told = lives.told;
            for (int year = 0; year < told.years; year++) {
                lives.saveYear(year, yearAheadOfFirst);
                for (int kind = 0; kind < told.deeds; kind++) {
                    if (!changesSomebody(told, kind, reachedAhead[year])) {
                        continue;
                    }
                    lives.addDeed(year, kind);
                    boolean helps = lives.surelyAcquitted(t);
                    lives.restoreYear(year, yearAheadOfFirst);
                    if (helps) {
                        answer(t, 1, code(year, kind), NOT_ONE);
                        return true;
                    }
                }
            }
            return false;
        }

        void searchTwo(Lives lives, int t) {
            Told told = lives.told;
            boolean helps = false;
            for (int year = 0; year < told.years && !helps; year++) {
                lives.saveYear(year, yearAheadOfFirst);
                for (int kind = 0; kind < told.deeds && !helps; kind++) {
                    if (changesSomebody(told, kind, reachedAhead[year])) {
                        lives.addDeed(year, kind);
                        helps = searchSecond(lives, t, year, code(year, kind));
                        lives.restoreYear(year, yearAheadOfFirst);
                    }
                }
            }
        }

        /**
         * Deeds of different years do the same in either order,
         * so a second one in an earlier year than the first was tried before.
         */
        boolean searchSecond(Lives lives, int t, int firstYear, int firstCode) {
            Told told = lives.told;
            lives.reach(reachedByFirst);
            for (int year = firstYear; year < told.years; year++) {
                lives.saveYear(year, yearAheadOfSecond);
                for (int kind = 0; kind < told.deeds; kind++) {
                    if (!changesSomebody(told, kind, reachedByFirst[year])) {
                        continue;
                    }
                    lives.addDeed(year, kind);
                    boolean helps = lives.surelyAcquitted(t);
                    lives.restoreYear(year, yearAheadOfSecond);
                    if (helps) {
                        answer(t, 2, firstCode, code(year, kind));
                        return true;
                    }
                }
            }
            return false;
        }
    }
}
