import java.util.NoSuchElementException;

/**
 * An office where souls wait and are given out again as some kind of life, told as a text.
 *
 * All rows are made once, with the object, and used again by every call: no call makes an object.
 */
public final class SoulOffice {
    public static final int NONE = -1;

    private static final int MAX_KINDS = 6;
    private static final int MAX_SOULS = 8;
    private static final int MAX_DEBT = 99999;
    private static final int LAST_DAY = 9999;
    private static final int MAX_DAYS = 60;
    private static final int MAX_PLACES = 9;

    private static final int MAX_TAPE = 940;
    private static final int BYTES_PER_FEED = 20;
    private static final int MAX_OFFICE_BYTES = 900;
    private static final int MAX_BOOK_BYTES = 400;
    private static final int MAX_SENTENCE_BYTES = 200;
    private static final int MAX_BOOK_LINES = 30;
    private static final int MAX_ONES = 20;
    private static final int MAX_WITHIN = 8;

    private static final int MAX_UNDO = 8;
    private static final int MAX_SEEN = 30;
    private static final int MAX_BEHIND = 9;
    private static final int MAX_MOST_DAYS = 30;
    private static final int MAX_CHOOSING = 5;
    private static final int MAX_ENDS_DAYS = 400;
    private static final int MAX_SEEDS = 40;
    private static final int ODDS_DAYS = 30;
    private static final int OTHER_LIVES = -1000;

    // What can be wrong with a TOKEN, as fault() tells it.
    private static final int CANNOT_COME = 1;
    private static final int BAD_NUMBER = 2;
    private static final int BAD_NAME = 3;
    private static final int TOO_MANY = 4;

    // Why a SOUL is not GIVEN OUT, or a LINE of a DAYBOOK is WRONG.
    private static final int DOES_NOT_WAIT = 1;
    private static final int MAY_NOT_BE = 2;
    private static final int NO_PLACE = 3;
    private static final int TOO_LATE = 4;

    // The sorts of TOKENS; KEY is a WORD that no NAME can be.
    private static final int END = 0;
    private static final int NAME = 1;
    private static final int KEY = 2;
    private static final int NUMBER = 3;
    private static final int SIGN = 4;
    private static final int BAD = 5;

    // The KEYS; their numbers below are their places in this text.
    private static final String KEYS =
            "kind meets soul only wish debt grows as day clerk or and not waits owes debts dues births left place ";
    private static final int KIND = 0;
    private static final int MEETS = 1;
    private static final int SOUL = 2;
    private static final int ONLY = 3;
    private static final int WISH = 4;
    private static final int DEBT = 5;
    private static final int GROWS = 6;
    private static final int AS = 7;
    private static final int DAY = 8;
    private static final int CLERK = 9;
    private static final int OR = 10;
    private static final int AND = 11;
    private static final int NOT = 12;
    private static final int WAITS = 13;
    private static final int OWES = 14;
    private static final int DEBTS = 15;
    private static final int DUES = 16;
    private static final int BIRTHS = 17;
    private static final int LEFT = 18;
    private static final int PLACE = 19;
    private static final int KEY_COUNT = 20;

    private final Tape tape;
    private final Rules rules;
    private final Rules draft;
    private final Life life;
    private final Life trial;
    private final Sentence saying;
    private final Sentence sayingDraft;
    private final History history;
    private final Image[] images;
    private final OfficeText officeText;
    private final Book book;
    private final MostSearch mostSearch;
    private final AppealSearch appealSearch;
    private final Nets nets;
    private final int[] firstWay;

    public SoulOffice() {
        Tape bytes = new Tape();
        Rules told = new Rules();
        Rules toldAnew = new Rules();
        Life now = new Life(told);
        now.begin();
        tape = bytes;
        rules = told;
        draft = toldAnew;
        life = now;
        trial = new Life(told);
        saying = new Sentence(bytes, told);
        sayingDraft = new Sentence(bytes, told);
        history = new History(told);
        officeText = new OfficeText(bytes, toldAnew);
        book = new Book(bytes, told);
        mostSearch = new MostSearch(told, now);
        appealSearch = new AppealSearch(told, now);
        nets = new Nets(told, now);
        images = new Image[] {new Image(bytes, told), new Image(bytes, told)};
        firstWay = new int[] {NONE, NONE, NONE};
    }

    // ---- the tape and what is read from it ----

    public int feed(int a, int b, int c, int d, int e) {
        if (tape.length > MAX_TAPE - BYTES_PER_FEED) {
            return NONE;
        }
        tape.addNumber(a);
        tape.addNumber(b);
        tape.addNumber(c);
        tape.addNumber(d);
        tape.addNumber(e);
        return tape.length;
    }

    public boolean end(int n) {
        if (n < 0 || n > tape.length) {
            return false;
        }
        tape.length = n;
        return true;
    }

    public int office() {
        int lines = officeText.readLines();
        tape.length = 0;
        if (lines == NONE) {
            return -1 - tape.place;
        }
        rules.copyFrom(draft);
        life.begin();
        saying.clear();
        history.clear();
        return lines;
    }

    public int fault() {
        return tape.faultKind;
    }

    public int daybook(int lives) {
        if (lives != 0 && lives != 1) {
            return OTHER_LIVES;
        }
        boolean read = book.readLines();
        tape.length = 0;
        if (!read) {
            return -2 - tape.place;
        }
        trial.copyFrom(life);
        book.runOn(trial);
        if (lives == 1 && book.ahead > 0) {
            history.keep(life);
            life.copyFrom(trial);
        }
        return book.wrong == 0 ? NONE : book.ahead;
    }

    public int booked(int what) {
        if (!book.told) {
            return NONE;
        }
        switch (what) {
            case 0: return book.wrong;
            case 1: return book.ahead;
            case 2: return book.settledInIt;
            case 3: return book.debtsThen;
            default: return NONE;
        }
    }

    public int sentence() {
        boolean read = sayingDraft.readText();
        tape.length = 0;
        if (!read) {
            return -1 - tape.place;
        }
        saying.copyFrom(sayingDraft);
        return saying.ones;
    }

    public int said(int k) {
        if (!saying.told) {
            return NONE;
        }
        int souls = saying.soulsSaid(life);
        if (k == NONE) {
            return Integer.bitCount(souls);
        }
        int found = 0;
        for (int s = 0; s < rules.souls; s++) {
            if ((souls >> s & 1) == 1) {
                if (found == k) {
                    return s;
                }
                found++;
            }
        }
        return NONE;
    }

    // ---- what is so ----

    public int count(int what) {
        switch (what) {
            case 0: return rules.kinds;
            case 1: return rules.souls;
            case 2: return rules.grows;
            case 3: return tape.length;
            default: return NONE;
        }
    }

    public int kind(int k, int what) {
        if (!rules.isKind(k)) {
            return NONE;
        }
        switch (what) {
            case 0: return rules.lifeDays[k];
            case 1: return rules.places[k];
            case 2: return life.free[k];
            case 3: return life.livingAs(k);
            default: return NONE;
        }
    }

    public int meets(int a, int b) {
        return rules.isKind(a) && rules.isKind(b) ? rules.meeting[kindPair(a, b)] : NONE;
    }

    public int soul(int s, int what) throws NoSuchElementException {
        if (!rules.isSoul(s) || what < 0 || what > 7) {
            throw new NoSuchElementException();
        }
        switch (what) {
            case 0: return life.as[s];
            case 1: return life.left[s];
            case 2: return life.births[s];
            case 3: return rules.may[s];
            case 4: return rules.wish[s];
            case 5: return life.owesInAll(s);
            case 6: return life.owedInAll(s);
            default: return life.today[s];
        }
    }

    public int debt(int a, int b) {
        return rules.isSoul(a) && rules.isSoul(b) ? life.owed[soulPair(a, b)] : NONE;
    }

    public int now(int what) {
        switch (what) {
            case 0: return life.day;
            case 1: return life.allDebts();
            case 2: return life.settledSum;
            case 3: return life.grownSum;
            case 4: return life.countWaiting();
            case 5: return life.allBirths();
            case 6: return life.countDebts();
            default: return NONE;
        }
    }

    public int settled(int a, int b) {
        if (!rules.isSoul(a) || !rules.isSoul(b) || a == b || life.day < 1) {
            return NONE;
        }
        return life.settledLast[soulPair(Math.min(a, b), Math.max(a, b))];
    }

    public int greatest(int what) {
        if (what < 0 || what > 2) {
            return NONE;
        }
        int best = NONE;
        int most = NONE;
        for (int s = 0; s < rules.souls; s++) {
            int much = what == 0 ? life.owesInAll(s) : what == 1 ? life.owedInAll(s) : life.births[s];
            if (much > most) {
                most = much;
                best = s;
            }
        }
        return best;
    }

    // ---- acts ----

    public int why(int s, int k) {
        return rules.isSoul(s) && rules.isKind(k) ? life.whyNot(s, k) : NONE;
    }

    public int give(int s, int k) {
        if (!rules.isSoul(s) || !rules.isKind(k)) {
            return NONE;
        }
        int reason = life.whyNot(s, k);
        if (reason == 0) {
            history.keep(life);
            life.giveOut(s, k);
        }
        return reason;
    }

    public int days(int n) {
        if (!life.canPass(n)) {
            return NONE;
        }
        history.keep(life);
        life.passDays(n);
        return life.day;
    }

    public int clerk(int n) {
        if (!life.canPass(n)) {
            return NONE;
        }
        history.keep(life);
        life.passClerkDays(n);
        return life.day;
    }

    public int drawn(int n, int seed) {
        if (rules.kinds < 1 || !life.canPass(n)) {
            return NONE;
        }
        history.keep(life);
        int births = life.allBirths();
        life.passDrawnDays(n, seed);
        return life.allBirths() - births;
    }

    public int appeal(int s, int k) {
        return rules.isSoul(s) && rules.isKind(k) ? appealSearch.fewestChanges(s, k) : NONE;
    }

    public boolean grant(int s, int k) {
        int changes = appeal(s, k);
        if (changes < 1 || !appealSearch.findChanges(s, k, changes)) {
            return false;
        }
        history.keep(life);
        appealSearch.changeKinds();
        return true;
    }

    public int undo() {
        return history.takeBack(life);
    }

    public boolean image(int k) {
        if (k < 0 || k >= images.length) {
            return false;
        }
        Image image = images[k];
        if (image == null) {
            return false;
        }
        image.keep(rules, life, saying);
        return true;
    }

    public boolean restore(int k) {
        if (k < 0 || k >= images.length) {
            return false;
        }
        Image image = images[k];
        if (image == null || !image.kept) {
            return false;
        }
        image.putBack(rules, life, saying);
        history.clear();
        return true;
    }

    // ---- what could be ----

    public int most(int n) {
        if (n < 1 || n > MAX_MOST_DAYS || life.countWaiting() > MAX_CHOOSING) {
            return NONE;
        }
        return mostSearch.mostSettled(n);
    }

    public int gives(int s) {
        return mostSearch.toldOf(s);
    }

    public int hopeless(int k) {
        int found = 0;
        for (int a = 0; a < rules.souls; a++) {
            for (int b = 0; b < rules.souls; b++) {
                if (life.owed[soulPair(a, b)] > 0 && !rules.canSettle(a, b)) {
                    if (found == k) {
                        return 10 * a + b;
                    }
                    found++;
                }
            }
        }
        return k == NONE ? found : NONE;
    }

    public int net(int s) throws NoSuchElementException {
        if (!rules.isSoul(s)) {
            throw new NoSuchElementException();
        }
        return life.owedInAll(s) - life.owesInAll(s);
    }

    public int fewest() {
        int most = nets.mostGroups();
        return nets.size - most;
    }

    public int groups() {
        return nets.mostGroups();
    }

    public int were(int a, int b) {
        boolean asTold = tape.length >= 1 && tape.length <= MAX_SEEN
                && rules.isSoul(a) && rules.isSoul(b) && a != b;
        int ways = asTold ? countWays(a, b) : NONE;
        tape.length = 0;
        return ways;
    }

    public int first(int what) {
        return what < 0 || what >= firstWay.length ? NONE : firstWay[what];
    }

    public int ends() {
        trial.copyFrom(life);
        for (int gone = 0; gone < MAX_ENDS_DAYS; gone++) {
            if (trial.allDebts() == 0) {
                return trial.day;
            }
            trial.passClerkDays(1);
        }
        return trial.allDebts() == 0 ? trial.day : NONE;
    }

    public int later(int n) {
        if (n < 1 || n > MAX_DAYS) {
            return NONE;
        }
        trial.copyFrom(life);
        trial.passClerkDays(n);
        return trial.allDebts();
    }

    public int queue(int k) {
        if (!rules.isKind(k)) {
            return NONE;
        }
        trial.copyFrom(life);
        trial.giveByClerk();
        int souls = 0;
        for (int s = 0; s < rules.souls; s++) {
            if (life.as[s] == NONE && trial.as[s] == k) {
                souls |= 1 << s;
            }
        }
        return souls;
    }

    public int odds(int n, int seed) {
        if (n < 1 || n > MAX_SEEDS || rules.kinds < 1) {
            return NONE;
        }
        trial.copyFrom(life);
        trial.passClerkDays(ODDS_DAYS);
        int byClerk = trial.allDebts();
        int less = 0;
        for (int i = 0; i < n; i++) {
            trial.copyFrom(life);
            trial.passDrawnDays(ODDS_DAYS, seed + i);
            if (trial.allDebts() < byClerk) {
                less++;
            }
        }
        return less;
    }

    // ---- helpers of the face ----

    private int countWays(int a, int b) {
        int ways = 0;
        for (int x = 0; x < rules.kinds; x++) {
            for (int y = 0; y < rules.kinds; y++) {
                for (int behind = 0; behind <= MAX_BEHIND; behind++) {
                    if (rules.mayBe(a, x) && rules.mayBe(b, y) && looksLike(x, y, behind)) {
                        if (ways == 0) {
                            keepFirstWay(x, y, behind);
                        }
                        ways++;
                    }
                }
            }
        }
        return ways;
    }

    private boolean looksLike(int x, int y, int behind) {
        int meeting = rules.meeting[kindPair(x, y)];
        for (int t = 0; t < tape.length; t++) {
            boolean bothLive = t < rules.lifeDays[x] && t >= behind && t < behind + rules.lifeDays[y];
            if (tape.bytes[t] != (bothLive ? meeting : 0)) {
                return false;
            }
        }
        return true;
    }

    private void keepFirstWay(int x, int y, int behind) {
        firstWay[0] = x;
        firstWay[1] = y;
        firstWay[2] = behind;
    }

    private static int soulPair(int a, int b) {
        return a * MAX_SOULS + b;
    }

    private static int kindPair(int a, int b) {
        return a * MAX_KINDS + b;
    }

    private static boolean isSmallLetter(int c) {
        return c >= 'a' && c <= 'z';
    }

    private static boolean isDigit(int c) {
        return c >= '0' && c <= '9';
    }

    private static boolean isSignByte(int c) {
        return c == ';' || c == '<' || c == '=' || c == '>' || c == '(' || c == ')';
    }

    /** A WORD's next letter joins it: five bits a letter, so that seven of them fit a long. */
    private static long withLetter(long word, int letter) {
        return word * 32 + (letter - 'a' + 1);
    }

    /** The KEYS as withLetter makes them, by their numbers. */
    private static long[] keysByNumber() {
        long[] keys = new long[KEY_COUNT];
        int found = 0;
        long word = 0;
        for (int i = 0; i < KEYS.length() && found < KEY_COUNT; i++) {
            char c = KEYS.charAt(i);
            if (c == ' ') {
                keys[found] = word;
                found++;
                word = 0;
            } else {
                word = withLetter(word, c);
            }
        }
        return keys;
    }

    /** The bytes fed so far, the TOKENS read from them, and the one at which the reading stands. */
    private static final class Tape {
        final int[] bytes = new int[MAX_TAPE];
        int length;
        private final long[] keys = keysByNumber();
        // The TOKENS of the text that is read, row by row; the last one is its END.
        private final int[] sorts = new int[MAX_TAPE + 1];
        private final int[] places = new int[MAX_TAPE + 1];
        private final int[] numbers = new int[MAX_TAPE + 1];
        private final long[] words = new long[MAX_TAPE + 1];
        private int tokens;
        private int next;
        private boolean tooLong;
        // The TOKEN here.
        int sort;
        int place;
        int number;
        long word;
        int faultKind;

        void addNumber(int n) {
            for (int shift = 24; shift >= 0; shift -= 8) {
                if (length < MAX_TAPE) {
                    bytes[length] = n >>> shift & 255;
                    length++;
                }
            }
        }

        /** Reading begins anew, by a text's most bytes: TOKENS that begin ahead of these are read. */
        void beginReading(int mostBytes) {
            faultKind = 0;
            tooLong = length > mostBytes;
            int stop = tooLong ? mostBytes : length;
            tokens = 0;
            int i = 0;
            for (int turn = 0; turn < MAX_TAPE && i < stop && i < MAX_TAPE; turn++) {
                int c = bytes[i];
                if (isSmallLetter(c) || isDigit(c)) {
                    i = addRun(i);
                } else {
                    if (c != ' ' && c != 10) {
                        addToken(isSignByte(c) ? SIGN : BAD, i, c, 0);
                    }
                    i++;
                }
            }
            addToken(END, stop, 0, 0);
            next = 0;
            advance();
        }

        /** A WORD, a NUMBER or no TOKEN: small letters and digits as long as they go; where they end. */
        private int addRun(int from) {
            int letters = 0;
            int digits = 0;
            int value = 0;
            long letterCode = 0;
            int i = from;
            for (; i < length && i < MAX_TAPE; i++) {
                int c = bytes[i];
                if (isSmallLetter(c)) {
                    letters++;
                    letterCode = withLetter(letterCode, c);
                } else if (isDigit(c)) {
                    digits++;
                    value = value * 10 + (c - '0');
                } else {
                    break;
                }
            }
            if (letters == 0 && digits <= 3) {
                addToken(NUMBER, from, value, 0);
            } else if (digits == 0 && letters <= 7) {
                int key = placeOf(letterCode, keys, KEY_COUNT);
                addToken(key == NONE ? NAME : KEY, from, key, letterCode);
            } else {
                addToken(BAD, from, 0, 0);
            }
            return i;
        }

        private void addToken(int sortOfIt, int from, int value, long letterCode) {
            if (tokens <= MAX_TAPE) {
                sorts[tokens] = sortOfIt;
                places[tokens] = from;
                numbers[tokens] = value;
                words[tokens] = letterCode;
                tokens++;
            }
        }

        /** To the next TOKEN; at the END it stays. */
        void advance() {
            if (next < tokens && next <= MAX_TAPE) {
                sort = sorts[next];
                place = places[next];
                number = numbers[next];
                word = words[next];
                next++;
            }
        }

        /** The TOKEN here is at FAULT: always false, for the reader to give back. */
        boolean refuse(int kindOfFault) {
            faultKind = kindOfFault;
            return false;
        }

        boolean endsHere() {
            return sort == END && !tooLong || refuse(CANNOT_COME);
        }

        boolean isKey(int key) {
            return sort == KEY && number == key;
        }

        boolean isSign(char c) {
            return sort == SIGN && number == c;
        }

        boolean takeSign(char c) {
            if (!isSign(c)) {
                return refuse(CANNOT_COME);
            }
            advance();
            return true;
        }

        boolean takeKey(int key) {
            if (!isKey(key)) {
                return refuse(CANNOT_COME);
            }
            advance();
            return true;
        }

        /** The NUMBER here, which is passed; NONE with a FAULT. */
        int takeNumber(int least, int greatest) {
            if (sort != NUMBER) {
                refuse(CANNOT_COME);
                return NONE;
            }
            if (number < least || number > greatest) {
                refuse(BAD_NUMBER);
                return NONE;
            }
            int taken = number;
            advance();
            return taken;
        }

        /** Which of these names the TOKEN here is, without passing it; NONE with a FAULT. */
        int nameHere(long[] names, int size) {
            if (sort != NAME) {
                refuse(CANNOT_COME);
                return NONE;
            }
            int found = placeOf(word, names, size);
            if (found == NONE) {
                refuse(BAD_NAME);
            }
            return found;
        }

        int takeName(long[] names, int size) {
            int found = nameHere(names, size);
            if (found != NONE) {
                advance();
            }
            return found;
        }

        static int placeOf(long name, long[] names, int size) {
            for (int i = 0; i < size && i < names.length; i++) {
                if (names[i] == name) {
                    return i;
                }
            }
            return NONE;
        }
    }

    /** What an OFFICE's text tells. */
    private static final class Rules {
        int kinds;
        int souls;
        int grows;
        final long[] kindNames = new long[MAX_KINDS];
        final long[] soulNames = new long[MAX_SOULS];
        final int[] lifeDays = new int[MAX_KINDS];
        final int[] places = new int[MAX_KINDS];
        final int[] meeting = new int[MAX_KINDS * MAX_KINDS];
        final int[] may = new int[MAX_SOULS];
        final int[] wish = new int[MAX_SOULS];
        final int[] owedFirst = new int[MAX_SOULS * MAX_SOULS];

        boolean isKind(int k) {
            return k >= 0 && k < kinds && k < MAX_KINDS;
        }

        boolean isSoul(int s) {
            return s >= 0 && s < souls && s < MAX_SOULS;
        }

        boolean mayBe(int s, int k) {
            return (may[s] >> k & 1) == 1;
        }

        boolean canSettle(int a, int b) {
            for (int x = 0; x < kinds; x++) {
                for (int y = 0; y < kinds; y++) {
                    if (mayBe(a, x) && mayBe(b, y) && meeting[kindPair(x, y)] > 0) {
                        return true;
                    }
                }
            }
            return false;
        }

        /** Nothing is told yet: NONE stands for what no LINE has told. */
        void clear() {
            kinds = 0;
            souls = 0;
            grows = NONE;
            for (int i = 0; i < meeting.length; i++) {
                meeting[i] = NONE;
            }
            for (int i = 0; i < owedFirst.length; i++) {
                owedFirst[i] = 0;
            }
        }

        /** What holds without a LINE takes the place of what none has told. */
        void fillUntold() {
            grows = Math.max(grows, 0);
            for (int i = 0; i < meeting.length; i++) {
                meeting[i] = Math.max(meeting[i], 0);
            }
            for (int s = 0; s < souls; s++) {
                may[s] = may[s] == 0 ? (1 << kinds) - 1 : may[s];
            }
        }

        void addKind(long name, int lastsFor, int places) {
            if (kinds < MAX_KINDS) {
                kindNames[kinds] = name;
                lifeDays[kinds] = lastsFor;
                this.places[kinds] = places;
                kinds++;
            }
        }

        void addSoul(long name) {
            if (souls < MAX_SOULS) {
                soulNames[souls] = name;
                may[souls] = 0;
                wish[souls] = NONE;
                souls++;
            }
        }

        void copyFrom(Rules other) {
            kinds = other.kinds;
            souls = other.souls;
            grows = other.grows;
            System.arraycopy(other.kindNames, 0, kindNames, 0, MAX_KINDS);
            System.arraycopy(other.soulNames, 0, soulNames, 0, MAX_SOULS);
            System.arraycopy(other.lifeDays, 0, lifeDays, 0, MAX_KINDS);
            System.arraycopy(other.places, 0, places, 0, MAX_KINDS);
            System.arraycopy(other.meeting, 0, meeting, 0, MAX_KINDS * MAX_KINDS);
            System.arraycopy(other.may, 0, may, 0, MAX_SOULS);
            System.arraycopy(other.wish, 0, wish, 0, MAX_SOULS);
            System.arraycopy(other.owedFirst, 0, owedFirst, 0, MAX_SOULS * MAX_SOULS);
        }
    }

    /** Reads the tape as an OFFICE, into a draft of its rules. */
    private static final class OfficeText {
        private final Tape tape;
        private final Rules draft;

        OfficeText(Tape tape, Rules draft) {
            this.tape = tape;
            this.draft = draft;
        }

        /** How many LINES; NONE with a FAULT. */
        int readLines() {
            draft.clear();
            tape.beginReading(MAX_OFFICE_BYTES);
            for (int lines = 0; lines <= MAX_OFFICE_BYTES; lines++) {
                if (tape.sort == END) {
                    if (!tape.endsHere()) {
                        return NONE;
                    }
                    draft.fillUntold();
                    return lines;
                }
                if (!readLine() || !tape.takeSign(';')) {
                    return NONE;
                }
            }
            return NONE;
        }

        private boolean readLine() {
            if (tape.sort != KEY) {
                return tape.refuse(CANNOT_COME);
            }
            switch (tape.number) {
                case KIND: return readKind();
                case MEETS: return readMeets();
                case SOUL: return readSoul();
                case ONLY: return readOnly();
                case WISH: return readWish();
                case DEBT: return readDebt();
                case GROWS: return readGrows();
                default: return tape.refuse(CANNOT_COME);
            }
        }

        private boolean readKind() {
            if (draft.kinds >= MAX_KINDS) {
                return tape.refuse(TOO_MANY);
            }
            tape.advance();
            long name = tape.word;
            if (!takeNewName()) {
                return false;
            }
            int lastsFor = tape.takeNumber(1, MAX_DAYS);
            if (lastsFor == NONE) {
                return false;
            }
            int places = tape.takeNumber(1, MAX_PLACES);
            if (places == NONE) {
                return false;
            }
            draft.addKind(name, lastsFor, places);
            return true;
        }

        private boolean readMeets() {
            tape.advance();
            int a = tape.takeName(draft.kindNames, draft.kinds);
            if (a == NONE) {
                return false;
            }
            int b = tape.nameHere(draft.kindNames, draft.kinds);
            if (b == NONE) {
                return false;
            }
            if (draft.meeting[kindPair(a, b)] != NONE) {
                return tape.refuse(BAD_NAME);
            }
            tape.advance();
            int much = tape.takeNumber(0, 99);
            if (much == NONE) {
                return false;
            }
            draft.meeting[kindPair(a, b)] = much;
            draft.meeting[kindPair(b, a)] = much;
            return true;
        }

        private boolean readSoul() {
            if (draft.souls >= MAX_SOULS) {
                return tape.refuse(TOO_MANY);
            }
            tape.advance();
            long name = tape.word;
            if (!takeNewName()) {
                return false;
            }
            draft.addSoul(name);
            return true;
        }

        private boolean readOnly() {
            tape.advance();
            int s = tape.nameHere(draft.soulNames, draft.souls);
            if (s == NONE) {
                return false;
            }
            if (draft.may[s] != 0) {
                return tape.refuse(BAD_NAME);
            }
            tape.advance();
            for (int told = 0; told <= MAX_KINDS; told++) {
                int k = tape.nameHere(draft.kindNames, draft.kinds);
                if (k == NONE) {
                    return false;
                }
                if (draft.mayBe(s, k)) {
                    return tape.refuse(BAD_NAME);
                }
                draft.may[s] |= 1 << k;
                tape.advance();
                if (tape.isSign(';')) {
                    return true;
                }
            }
            return tape.refuse(CANNOT_COME);
        }

        private boolean readWish() {
            tape.advance();
            int s = tape.nameHere(draft.soulNames, draft.souls);
            if (s == NONE) {
                return false;
            }
            if (draft.wish[s] != NONE) {
                return tape.refuse(BAD_NAME);
            }
            tape.advance();
            int k = tape.takeName(draft.kindNames, draft.kinds);
            if (k == NONE) {
                return false;
            }
            draft.wish[s] = k;
            return true;
        }

        private boolean readDebt() {
            tape.advance();
            int a = tape.takeName(draft.soulNames, draft.souls);
            if (a == NONE) {
                return false;
            }
            int b = tape.nameHere(draft.soulNames, draft.souls);
            if (b == NONE) {
                return false;
            }
            if (a == b || draft.owedFirst[soulPair(a, b)] != 0) {
                return tape.refuse(BAD_NAME);
            }
            tape.advance();
            int much = tape.takeNumber(1, 999);
            if (much == NONE) {
                return false;
            }
            draft.owedFirst[soulPair(a, b)] = much;
            return true;
        }

        private boolean readGrows() {
            if (draft.grows != NONE) {
                return tape.refuse(BAD_NAME);
            }
            tape.advance();
            draft.grows = tape.takeNumber(0, 9);
            return draft.grows != NONE;
        }

        private boolean takeNewName() {
            if (tape.sort != NAME) {
                return tape.refuse(CANNOT_COME);
            }
            if (Tape.placeOf(tape.word, draft.kindNames, draft.kinds) != NONE
                    || Tape.placeOf(tape.word, draft.soulNames, draft.souls) != NONE) {
                return tape.refuse(BAD_NAME);
            }
            tape.advance();
            return true;
        }
    }

    /** All that is so on a DAY: who lives as what, who owes whom, and what came of it so far. */
    private static final class Life {
        private final Rules rules;
        int day;
        int settledSum;
        int grownSum;
        final int[] as = new int[MAX_SOULS];
        final int[] left = new int[MAX_SOULS];
        final int[] births = new int[MAX_SOULS];
        // 1: it was GIVEN OUT today.
        final int[] today = new int[MAX_SOULS];
        final int[] free = new int[MAX_KINDS];
        final int[] owed = new int[MAX_SOULS * MAX_SOULS];
        // What each pair settled in the latest DAY, the lesser SOUL ahead.
        final int[] settledLast = new int[MAX_SOULS * MAX_SOULS];

        Life(Rules rules) {
            this.rules = rules;
        }

        void begin() {
            day = 0;
            settledSum = 0;
            grownSum = 0;
            for (int s = 0; s < MAX_SOULS; s++) {
                as[s] = NONE;
                left[s] = 0;
                births[s] = 0;
                today[s] = 0;
            }
            System.arraycopy(rules.places, 0, free, 0, MAX_KINDS);
            System.arraycopy(rules.owedFirst, 0, owed, 0, owed.length);
            for (int i = 0; i < settledLast.length; i++) {
                settledLast[i] = 0;
            }
        }

        void copyFrom(Life other) {
            day = other.day;
            settledSum = other.settledSum;
            grownSum = other.grownSum;
            System.arraycopy(other.as, 0, as, 0, MAX_SOULS);
            System.arraycopy(other.left, 0, left, 0, MAX_SOULS);
            System.arraycopy(other.births, 0, births, 0, MAX_SOULS);
            System.arraycopy(other.today, 0, today, 0, MAX_SOULS);
            System.arraycopy(other.free, 0, free, 0, MAX_KINDS);
            System.arraycopy(other.owed, 0, owed, 0, MAX_SOULS * MAX_SOULS);
            System.arraycopy(other.settledLast, 0, settledLast, 0, MAX_SOULS * MAX_SOULS);
        }

        int owesInAll(int s) {
            int sum = 0;
            for (int other = 0; other < rules.souls; other++) {
                sum += owed[soulPair(s, other)];
            }
            return sum;
        }

        int owedInAll(int s) {
            int sum = 0;
            for (int other = 0; other < rules.souls; other++) {
                sum += owed[soulPair(other, s)];
            }
            return sum;
        }

        int allDebts() {
            int sum = 0;
            for (int i = 0; i < owed.length; i++) {
                sum += owed[i];
            }
            return sum;
        }

        int countDebts() {
            int found = 0;
            for (int i = 0; i < owed.length; i++) {
                found += owed[i] > 0 ? 1 : 0;
            }
            return found;
        }

        int countWaiting() {
            int found = 0;
            for (int s = 0; s < rules.souls; s++) {
                found += as[s] == NONE ? 1 : 0;
            }
            return found;
        }

        int allBirths() {
            int sum = 0;
            for (int s = 0; s < rules.souls; s++) {
                sum += births[s];
            }
            return sum;
        }

        int livingAs(int k) {
            int found = 0;
            for (int s = 0; s < rules.souls; s++) {
                found += as[s] == k ? 1 : 0;
            }
            return found;
        }

        /** Why this SOUL can't be GIVEN OUT as this KIND; 0: it can. */
        int whyNot(int s, int k) {
            if (as[s] != NONE) {
                return DOES_NOT_WAIT;
            }
            if (!rules.mayBe(s, k)) {
                return MAY_NOT_BE;
            }
            return free[k] < 1 ? NO_PLACE : 0;
        }

        void giveOut(int s, int k) {
            become(s, k);
            births[s]++;
            today[s] = 1;
        }

        /** The SOUL takes a PLACE of the KIND and has its whole life ahead. */
        void become(int s, int k) {
            as[s] = k;
            left[s] = rules.lifeDays[k];
            free[k]--;
        }

        boolean canPass(int n) {
            return n >= 1 && n <= MAX_DAYS && day <= LAST_DAY - n;
        }

        void passDays(int n) {
            for (int i = 0; i < n; i++) {
                passDay();
            }
        }

        void passClerkDays(int n) {
            for (int i = 0; i < n; i++) {
                giveByClerk();
                passDay();
            }
        }

        void passDrawnDays(int n, int seed) {
            if (rules.kinds < 1) {
                return;
            }
            int x = seed;
            for (int i = 0; i < n; i++) {
                for (int s = 0; s < rules.souls; s++) {
                    if (as[s] == NONE) {
                        x = x * 1103515245 + 12345;
                        int k = (x >>> 8) % rules.kinds;
                        if (whyNot(s, k) == 0) {
                            giveOut(s, k);
                        }
                    }
                }
                passDay();
            }
        }

        void giveByClerk() {
            for (int s = 0; s < rules.souls; s++) {
                int k = clerksChoice(s);
                if (k != NONE) {
                    giveOut(s, k);
                }
            }
        }

        private int clerksChoice(int s) {
            int wished = rules.wish[s];
            if (wished != NONE && whyNot(s, wished) == 0) {
                return wished;
            }
            for (int k = 0; k < rules.kinds; k++) {
                if (whyNot(s, k) == 0) {
                    return k;
                }
            }
            return NONE;
        }

        private void passDay() {
            for (int a = 0; a < rules.souls; a++) {
                for (int b = a + 1; b < rules.souls; b++) {
                    settledLast[soulPair(a, b)] = settlePair(a, b);
                    settledSum += settledLast[soulPair(a, b)];
                }
            }
            grow();
            for (int s = 0; s < rules.souls; s++) {
                left[s] = Math.max(left[s] - 1, 0);
                if (left[s] == 0) {
                    as[s] = NONE;
                }
                today[s] = 0;
            }
            System.arraycopy(rules.places, 0, free, 0, MAX_KINDS);
            day++;
        }

        private int settlePair(int a, int b) {
            if (as[a] == NONE || as[b] == NONE) {
                return 0;
            }
            int much = rules.meeting[kindPair(as[a], as[b])];
            int there = soulPair(a, b);
            int back = soulPair(b, a);
            int ofFirst = Math.min(much, owed[there]);
            int ofSecond = Math.min(much - ofFirst, owed[back]);
            owed[there] -= ofFirst;
            owed[back] -= ofSecond;
            return ofFirst + ofSecond;
        }

        private void grow() {
            if (rules.grows == 0) {
                return;
            }
            for (int i = 0; i < owed.length; i++) {
                if (owed[i] > 0) {
                    int grown = Math.min(owed[i] + rules.grows, MAX_DEBT);
                    grownSum += grown - owed[i];
                    owed[i] = grown;
                }
            }
        }
    }

    /** Reads the tape as a DAYBOOK, and judges it on a life. */
    private static final class Book {
        private final Tape tape;
        private final Rules rules;
        private int lines;
        // The LINE's KEY; whom it names; the KIND's number or how many DAYS.
        private final int[] act = new int[MAX_BOOK_LINES];
        private final int[] who = new int[MAX_BOOK_LINES];
        private final int[] what = new int[MAX_BOOK_LINES];
        boolean told;
        int wrong;
        int ahead;
        int settledInIt;
        int debtsThen;

        Book(Tape tape, Rules rules) {
            this.tape = tape;
            this.rules = rules;
        }

        boolean readLines() {
            lines = 0;
            tape.beginReading(MAX_BOOK_BYTES);
            for (int i = 0; i <= MAX_BOOK_LINES; i++) {
                if (tape.sort == END) {
                    return tape.endsHere();
                }
                if (!readLine() || !tape.takeSign(';')) {
                    return false;
                }
            }
            return false;
        }

        private boolean readLine() {
            int key = tape.isKey(DAY) ? DAY : tape.isKey(CLERK) ? CLERK : AS;
            int s = NONE;
            if (key == AS) {
                s = tape.nameHere(rules.soulNames, rules.souls);
                if (s == NONE) {
                    return false;
                }
            }
            if (lines >= MAX_BOOK_LINES) {
                return tape.refuse(TOO_MANY);
            }
            tape.advance();
            if (key == AS && !tape.takeKey(AS)) {
                return false;
            }
            int number = key == AS ? tape.takeName(rules.kindNames, rules.kinds)
                    : tape.takeNumber(1, MAX_DAYS);
            if (number == NONE) {
                return false;
            }
            act[lines] = key;
            who[lines] = s;
            what[lines] = number;
            lines++;
            return true;
        }

        /** Lives the LINES on a life as far as none is WRONG. */
        void runOn(Life life) {
            int settledAhead = life.settledSum;
            told = true;
            wrong = 0;
            ahead = 0;
            for (int i = 0; i < lines && i < MAX_BOOK_LINES; i++) {
                wrong = runLine(life, i);
                if (wrong != 0) {
                    break;
                }
                ahead++;
            }
            settledInIt = life.settledSum - settledAhead;
            debtsThen = life.allDebts();
        }

        private int runLine(Life life, int line) {
            if (act[line] == AS) {
                int reason = life.whyNot(who[line], what[line]);
                if (reason == 0) {
                    life.giveOut(who[line], what[line]);
                }
                return reason;
            }
            if (!life.canPass(what[line])) {
                return TOO_LATE;
            }
            if (act[line] == DAY) {
                life.passDays(what[line]);
            } else {
                life.passClerkDays(what[line]);
            }
            return 0;
        }
    }

    /** A SENTENCE, kept as steps in which what is joined stands ahead of what joins it. */
    private static final class Sentence {
        // Each ONE makes one step at most, and each 'and', 'or' joins two of them.
        private static final int MAX_STEPS = 2 * MAX_ONES;
        private final Tape tape;
        private final Rules rules;
        private final int[] step = new int[MAX_STEPS];
        private final int[] sign = new int[MAX_STEPS];
        private final int[] number = new int[MAX_STEPS];
        private final int[] stack = new int[MAX_STEPS];
        private int steps;
        boolean told;
        int ones;

        Sentence(Tape tape, Rules rules) {
            this.tape = tape;
            this.rules = rules;
        }

        void clear() {
            told = false;
            ones = 0;
            steps = 0;
        }

        void copyFrom(Sentence other) {
            told = other.told;
            ones = other.ones;
            steps = other.steps;
            System.arraycopy(other.step, 0, step, 0, MAX_STEPS);
            System.arraycopy(other.sign, 0, sign, 0, MAX_STEPS);
            System.arraycopy(other.number, 0, number, 0, MAX_STEPS);
        }

        boolean readText() {
            clear();
            tape.beginReading(MAX_SENTENCE_BYTES);
            told = readCond(1) && tape.endsHere();
            return told;
        }

        private boolean readCond(int depth) {
            if (!readAll(depth)) {
                return false;
            }
            // Each turn reads a ONE, of which there are 20 at most.
            for (int i = 0; i <= MAX_ONES && tape.isKey(OR); i++) {
                tape.advance();
                if (!readAll(depth)) {
                    return false;
                }
                addStep(OR, 0, 0);
            }
            return true;
        }

        private boolean readAll(int depth) {
            if (!readOne(depth)) {
                return false;
            }
            for (int i = 0; i <= MAX_ONES && tape.isKey(AND); i++) {
                tape.advance();
                if (!readOne(depth)) {
                    return false;
                }
                addStep(AND, 0, 0);
            }
            return true;
        }

        private boolean readOne(int depth) {
            boolean bracket = tape.isSign('(');
            boolean word = tape.sort == KEY && (tape.number == AS || tape.number >= NOT);
            if (!bracket && !word) {
                return tape.refuse(CANNOT_COME);
            }
            if (ones >= MAX_ONES || depth > MAX_WITHIN) {
                return tape.refuse(TOO_MANY);
            }
            ones++;
            int key = tape.number;
            tape.advance();
            if (bracket) {
                return readCond(depth + 1) && tape.takeSign(')');
            }
            switch (key) {
                case NOT: return readNot(depth);
                case WAITS: return addStep(WAITS, 0, 0);
                case AS: return readNamed(AS, rules.kindNames, rules.kinds);
                case OWES: return readNamed(OWES, rules.soulNames, rules.souls);
                default: return readCompared(key);
            }
        }

        private boolean readNot(int depth) {
            return readOne(depth + 1) && addStep(NOT, 0, 0);
        }

        private boolean readNamed(int key, long[] names, int size) {
            int named = tape.nameHere(names, size);
            if (named == NONE) {
                return false;
            }
            tape.advance();
            return addStep(key, 0, named);
        }

        private boolean readCompared(int key) {
            if (!tape.isSign('<') && !tape.isSign('=') && !tape.isSign('>')) {
                return tape.refuse(CANNOT_COME);
            }
            int compared = tape.number;
            tape.advance();
            int with = tape.takeNumber(0, 999);
            return with != NONE && addStep(key, compared, with);
        }

        /** True always: a SENTENCE never has more steps than there is room for. */
        private boolean addStep(int key, int compared, int with) {
            if (steps < MAX_STEPS) {
                step[steps] = key;
                sign[steps] = compared;
                number[steps] = with;
                steps++;
            }
            return true;
        }

        /** The SOULS of whom it may be said, as bits. */
        int soulsSaid(Life life) {
            int all = (1 << rules.souls) - 1;
            int top = 0;
            for (int i = 0; i < steps && i < MAX_STEPS; i++) {
                if (step[i] == NOT && top > 0) {
                    stack[top - 1] = all & ~stack[top - 1];
                } else if (step[i] == AND && top > 1) {
                    top--;
                    stack[top - 1] &= stack[top];
                } else if (step[i] == OR && top > 1) {
                    top--;
                    stack[top - 1] |= stack[top];
                } else if (top < MAX_STEPS) {
                    stack[top] = soulsByStep(i, life);
                    top++;
                }
            }
            return stack[0];
        }

        private int soulsByStep(int i, Life life) {
            int souls = 0;
            for (int s = 0; s < rules.souls; s++) {
                if (holds(i, life, s)) {
                    souls |= 1 << s;
                }
            }
            return souls;
        }

        private boolean holds(int i, Life life, int s) {
            switch (step[i]) {
                case WAITS: return life.as[s] == NONE;
                case AS: return life.as[s] == number[i];
                case OWES: return life.owed[soulPair(s, number[i])] > 0;
                case DEBTS: return compares(life.owesInAll(s), i);
                case DUES: return compares(life.owedInAll(s), i);
                case BIRTHS: return compares(life.births[s], i);
                case LEFT: return compares(life.left[s], i);
                case PLACE: return compares(s, i);
                default: return false;
            }
        }

        private boolean compares(int much, int i) {
            return sign[i] == '<' ? much < number[i] : sign[i] == '>' ? much > number[i] : much == number[i];
        }
    }

    /** The lives ahead of the latest acts, for undoing them. */
    private static final class History {
        private final Life[] kept = new Life[MAX_UNDO];
        private int size;
        private int next;

        History(Rules rules) {
            for (int i = 0; i < MAX_UNDO; i++) {
                kept[i] = new Life(rules);
            }
        }

        void clear() {
            size = 0;
        }

        void keep(Life life) {
            Life row = kept[next];
            if (row != null) {
                row.copyFrom(life);
                next = (next + 1) % MAX_UNDO;
                size = Math.min(size + 1, MAX_UNDO);
            }
        }

        /** How many more there are; NONE, and nothing happens, if there is none. */
        int takeBack(Life life) {
            if (size < 1) {
                return NONE;
            }
            next = (next + MAX_UNDO - 1) % MAX_UNDO;
            size--;
            Life row = kept[next];
            if (row != null) {
                life.copyFrom(row);
            }
            return size;
        }
    }

    /** An OFFICE, all that is so and a SENTENCE, kept. */
    private static final class Image {
        private final Rules rules;
        private final Life life;
        private final Sentence saying;
        boolean kept;

        Image(Tape tape, Rules rulesNow) {
            rules = new Rules();
            life = new Life(rulesNow);
            saying = new Sentence(tape, rulesNow);
        }

        void keep(Rules rulesNow, Life lifeNow, Sentence sayingNow) {
            rules.copyFrom(rulesNow);
            life.copyFrom(lifeNow);
            saying.copyFrom(sayingNow);
            kept = true;
        }

        void putBack(Rules rulesNow, Life lifeNow, Sentence sayingNow) {
            rulesNow.copyFrom(rules);
            lifeNow.copyFrom(life);
            sayingNow.copyFrom(saying);
        }
    }

    /**
     * The most that can be settled. What a pair settles depends on its two lives alone, so each
     * pair's sum is reckoned once for each two KINDS, and the ways are then weighed by sums.
     */
    private static final class MostSearch {
        private static final int KIND_PAIRS = MAX_KINDS * MAX_KINDS;
        private final Rules rules;
        private final Life life;
        private final int[] who = new int[MAX_CHOOSING];
        private int waiting;
        // What one as a KIND settles with those who live already.
        private final int[] alone = new int[MAX_CHOOSING * MAX_KINDS];
        // What two who wait settle with each other, as two KINDS.
        private final int[] together = new int[MAX_CHOOSING * MAX_CHOOSING * KIND_PAIRS];
        // No way settles more than this by those who wait from one on: it ends hopeless ways.
        private final int[] bound = new int[MAX_CHOOSING + 1];
        private final int[] free = new int[MAX_KINDS];
        private final int[] chosen = new int[MAX_CHOOSING];
        private int best;
        private final int[] given = new int[MAX_SOULS];

        MostSearch(Rules rules, Life life) {
            this.rules = rules;
            this.life = life;
            clearGiven();
        }

        private void clearGiven() {
            for (int s = 0; s < MAX_SOULS; s++) {
                given[s] = NONE;
            }
        }

        /** As what the latest way has this SOUL; the OFFICE may be another one by now. */
        int toldOf(int s) {
            return s >= 0 && s < MAX_SOULS ? given[s] : NONE;
        }

        int mostSettled(int days) {
            clearGiven();
            waiting = 0;
            for (int s = 0; s < rules.souls; s++) {
                if (life.as[s] == NONE && waiting < MAX_CHOOSING) {
                    who[waiting] = s;
                    waiting++;
                }
            }
            System.arraycopy(life.free, 0, free, 0, MAX_KINDS);
            fillTables(days);
            best = NONE;
            choose(0, byTheLiving(days));
            return best;
        }

        private int byTheLiving(int days) {
            int sum = 0;
            for (int a = 0; a < rules.souls; a++) {
                for (int b = a + 1; b < rules.souls; b++) {
                    if (life.as[a] != NONE && life.as[b] != NONE) {
                        int both = Math.min(days, Math.min(life.left[a], life.left[b]));
                        sum += pairSum(a, b, rules.meeting[kindPair(life.as[a], life.as[b])], both);
                    }
                }
            }
            return sum;
        }

        private void fillTables(int days) {
            bound[waiting] = 0;
            for (int i = waiting - 1; i >= 0; i--) {
                bound[i] = bound[i + 1] + fillAlone(i, days);
                for (int j = 0; j < i; j++) {
                    bound[i] += fillTogether(j, i, days);
                }
            }
        }

        private int fillAlone(int i, int days) {
            int s = who[i];
            int greatestSum = 0;
            for (int k = 0; k < rules.kinds; k++) {
                int sum = 0;
                for (int other = 0; other < rules.souls; other++) {
                    if (life.as[other] != NONE) {
                        int both = Math.min(days, Math.min(rules.lifeDays[k], life.left[other]));
                        int much = rules.meeting[kindPair(k, life.as[other])];
                        sum += pairSum(Math.min(s, other), Math.max(s, other), much, both);
                    }
                }
                alone[i * MAX_KINDS + k] = sum;
                greatestSum = Math.max(greatestSum, sum);
            }
            return greatestSum;
        }

        private int fillTogether(int i, int j, int days) {
            int greatestSum = 0;
            for (int x = 0; x < rules.kinds; x++) {
                for (int y = 0; y < rules.kinds; y++) {
                    int both = Math.min(days, Math.min(rules.lifeDays[x], rules.lifeDays[y]));
                    int sum = pairSum(who[i], who[j], rules.meeting[kindPair(x, y)], both);
                    together[togetherAt(i, j, x, y)] = sum;
                    greatestSum = Math.max(greatestSum, sum);
                }
            }
            return greatestSum;
        }

        private static int togetherAt(int i, int j, int x, int y) {
            return (i * MAX_CHOOSING + j) * KIND_PAIRS + kindPair(x, y);
        }

        /** What two (the lesser ahead) settle in some DAYS, by so much a DAY. */
        private int pairSum(int a, int b, int much, int days) {
            int there = life.owed[soulPair(a, b)];
            int back = life.owed[soulPair(b, a)];
            int sum = 0;
            for (int i = 0; i < days && much > 0 && there + back > 0; i++) {
                int ofFirst = Math.min(much, there);
                int ofSecond = Math.min(much - ofFirst, back);
                sum += ofFirst + ofSecond;
                there = grownBy(there - ofFirst);
                back = grownBy(back - ofSecond);
            }
            return sum;
        }

        private int grownBy(int debtLeft) {
            return debtLeft > 0 ? Math.min(debtLeft + rules.grows, MAX_DEBT) : 0;
        }

        /** Who waits from number i on (five at most) is chosen for, the first way ahead. */
        private void choose(int i, int sum) {
            if (i >= waiting || i >= MAX_CHOOSING) {
                if (sum > best) {
                    keepWay(sum);
                }
                return;
            }
            if (sum + bound[i] <= best) {
                return;
            }
            chooseAs(i, NONE, sum);
            for (int k = 0; k < rules.kinds; k++) {
                if (free[k] > 0 && rules.mayBe(who[i], k)) {
                    free[k]--;
                    chooseAs(i, k, sum + addedBy(i, k));
                    free[k]++;
                }
            }
        }

        private void chooseAs(int i, int k, int sum) {
            chosen[i] = k;
            choose(i + 1, sum);
        }

        private int addedBy(int i, int k) {
            int sum = alone[i * MAX_KINDS + k];
            for (int j = 0; j < i; j++) {
                if (chosen[j] != NONE) {
                    sum += together[togetherAt(j, i, chosen[j], k)];
                }
            }
            return sum;
        }

        private void keepWay(int sum) {
            best = sum;
            for (int i = 0; i < waiting && i < MAX_CHOOSING; i++) {
                given[who[i]] = chosen[i];
            }
        }
    }

    /** The fewest changes of KINDS, of those GIVEN OUT today, by which one has a told KIND. */
    private static final class AppealSearch {
        private final Rules rules;
        private final Life life;
        private final int[] room = new int[MAX_KINDS];
        private final int[] steps = new int[MAX_KINDS];
        private final int[] chosen = new int[MAX_SOULS];
        private int asker;
        private int asked;

        AppealSearch(Rules rules, Life life) {
            this.rules = rules;
            this.life = life;
        }

        /**
         * The fewest changes are a chain: the asker takes the KIND, one of it goes on to another
         * KIND, and so on to a KIND with a PLACE left (that which the asker leaves has one).
         */
        int fewestChanges(int s, int k) {
            if (life.today[s] == 0 || !rules.mayBe(s, k)) {
                return NONE;
            }
            int had = life.as[s];
            if (had == k || had == NONE) {
                return had == k ? 0 : NONE;
            }
            for (int x = 0; x < rules.kinds; x++) {
                room[x] = life.free[x];
                steps[x] = x == k ? 1 : 0;
            }
            room[had]++;
            for (int changes = 1; changes <= rules.kinds; changes++) {
                for (int x = 0; x < rules.kinds; x++) {
                    if (steps[x] == changes && room[x] > 0) {
                        return changes;
                    }
                }
                stepOn(s, changes);
            }
            return NONE;
        }

        private void stepOn(int asking, int changes) {
            for (int s = 0; s < rules.souls; s++) {
                int had = life.as[s];
                if (s != asking && life.today[s] == 1 && had != NONE && steps[had] == changes) {
                    for (int x = 0; x < rules.kinds; x++) {
                        if (steps[x] == 0 && rules.mayBe(s, x)) {
                            steps[x] = changes + 1;
                        }
                    }
                }
            }
        }

        /** Finds the first way of so many changes; it is there if they are the fewest. */
        boolean findChanges(int s, int k, int changes) {
            asker = s;
            asked = k;
            System.arraycopy(rules.places, 0, room, 0, MAX_KINDS);
            room[k]--;
            return choose(0, changes - 1);
        }

        /** SOUL by SOUL from s on (eight at most), its KIND as it is ahead of all. */
        private boolean choose(int s, int changesLeft) {
            if (s >= rules.souls || s >= MAX_SOULS) {
                return true;
            }
            if (s == asker) {
                return goOnWith(s, asked, changesLeft);
            }
            if (life.today[s] == 0) {
                return goOnWith(s, life.as[s], changesLeft);
            }
            if (chooseAs(s, life.as[s], changesLeft)) {
                return true;
            }
            for (int k = 0; k < rules.kinds && changesLeft > 0; k++) {
                if (k != life.as[s] && rules.mayBe(s, k) && chooseAs(s, k, changesLeft - 1)) {
                    return true;
                }
            }
            return false;
        }

        private boolean chooseAs(int s, int k, int changesLeft) {
            if (k == NONE || room[k] < 1) {
                return false;
            }
            room[k]--;
            boolean found = goOnWith(s, k, changesLeft);
            room[k]++;
            return found;
        }

        private boolean goOnWith(int s, int k, int changesLeft) {
            chosen[s] = k;
            return choose(s + 1, changesLeft);
        }

        /** The KINDS found are taken, and what is PLACES left today goes with them. */
        void changeKinds() {
            for (int s = 0; s < rules.souls; s++) {
                if (chosen[s] != life.as[s] && life.as[s] != NONE) {
                    life.free[life.as[s]]++;
                    life.become(s, chosen[s]);
                }
            }
        }
    }

    /** What each is owed in all, and the parting of the SOULS by it. */
    private static final class Nets {
        private static final int SETS = 1 << MAX_SOULS;
        private final Rules rules;
        private final Life life;
        private final int[] nonzero = new int[MAX_SOULS];
        private final int[] sum = new int[SETS];
        private final int[] parts = new int[SETS];
        int size;

        Nets(Rules rules, Life life) {
            this.rules = rules;
            this.life = life;
        }

        /**
         * The most groups that come to 0. A set's best is that of the set without one of it, and
         * one group more if it comes to 0 itself: the last of a group closes it.
         */
        int mostGroups() {
            collect();
            for (int set = 1; set < 1 << size && set < SETS; set++) {
                int most = 0;
                for (int i = 0; i < size; i++) {
                    if ((set >> i & 1) == 1) {
                        int rest = set ^ 1 << i;
                        sum[set] = sum[rest] + nonzero[i];
                        most = Math.max(most, parts[rest]);
                    }
                }
                parts[set] = sum[set] == 0 ? most + 1 : most;
            }
            return parts[(1 << size) - 1];
        }

        private void collect() {
            size = 0;
            for (int s = 0; s < rules.souls; s++) {
                int much = life.owedInAll(s) - life.owesInAll(s);
                if (much != 0 && size < MAX_SOULS) {
                    nonzero[size] = much;
                    size++;
                }
            }
        }
    }
}
