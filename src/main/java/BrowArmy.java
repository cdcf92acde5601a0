import java.util.NoSuchElementException;

/**
 * An army whose ranks are eyebrows: men on a field who see one another as far as brows are thick,
 * orders that are each two lifts, and what becomes of them hour by hour. ../shared/DOC.md is its
 * document; names written in capitals there are used here in small letters.
 */
public final class BrowArmy {
    public static final int NONE = -1;

    private static final int MOST_TAPE = 940;
    private static final int MOST_ARMY_BYTES = 900;
    private static final int MOST_BOOK_BYTES = 400;
    private static final int MOST_SENTENCE_BYTES = 200;
    private static final int MOST_REPORT_BYTES = 64;

    private static final int MOST_MEN = 8;
    private static final int MOST_ORDERS = 7;
    private static final int MOST_FOES = 4;
    private static final int MOST_LINES = 40;
    private static final int MOST_ONES = 20;
    private static final int MOST_WITHIN = 8;
    private static final int MOST_STEPS = 2 * MOST_ONES;
    private static final int MOST_UNDONE = 8;
    private static final int IMAGES = 2;

    private static final int SIDE_OF_FIELD = 30;
    private static final int THICKEST = 9;
    private static final int SOOT = 3;
    private static final int KINDS_OF_LIFT = 3;
    private static final int SIDES = 4;
    private static final int MOST_LOST = 99;
    private static final int CLEAR_UNTOLD = 2;
    private static final int MOST_CLEAR = 5;
    private static final int RAIN_UNTOLD = 6;
    private static final int MOST_RAIN = 30;

    private static final int LAST_HOUR = 400;
    private static final int MOST_HOURS = 60;
    private static final int HOURS_AHEAD = 20;
    private static final int MOST_SEEDS = 30;
    private static final int MOST_SEEN_PAIRS = 6;
    private static final int OTHER_LIVES = -1000;
    private static final int GREATEST_NUMBER = 999;

    private static final int CANNOT_COME = 1;
    private static final int BAD_NUMBER = 2;
    private static final int BAD_NAME = 3;
    private static final int TOO_MANY = 4;

    private static final int END = 0;
    private static final int NO_TOKEN = 1;
    private static final int SIGN = 2;
    private static final int NUMBER = 3;
    private static final int WORD = 4;
    private static final int NAME = 5;

    private static final int TO_LIFT = 0;
    private static final int TO_GIVE = 1;
    private static final int TO_SLEEP = 2;
    private static final int TO_WAKE = 3;
    private static final int TO_SOOT = 4;
    private static final int TO_GO = 5;
    private static final int TO_WAIT = 6;

    private static final int PLAIN = 0;
    private static final int LIFT = 1;
    private static final int SIDE = 2;
    private static final int VERB = 3;
    private static final int TRAIT = 4;
    private static final int OF_MAN = 5;
    private static final int OF_ORDER = 6;
    private static final int MEASURE = 7;

    private final Tape tape;
    private final Reader reader;
    private final Army army;
    private final Army newArmy;
    private final State now;
    private final State trial;
    private final Past past;
    private final Image[] images;
    private final Book book;
    private final Sentence sentence;
    private final Sentence newSentence;
    private final Guess guess;
    private final Report report;
    private int fault;
    private int cellX;
    private int cellY;
    private int toAsk;

    public BrowArmy() {
        tape = new Tape();
        reader = new Reader(tape);
        army = new Army();
        newArmy = new Army();
        now = new State(army);
        trial = new State(army);
        past = new Past(army);
        images = new Image[IMAGES];
        for (int k = 0; k < IMAGES; k++) {
            images[k] = new Image();
        }
        book = new Book();
        sentence = new Sentence();
        newSentence = new Sentence();
        guess = new Guess();
        report = new Report();
        cellX = NONE;
        cellY = NONE;
        toAsk = NONE;
    }

    // ---- the tape and the army's text

    public int feed(int a, int b, int c, int d, int e) {
        if (tape.length + 20 > MOST_TAPE) {
            return NONE;
        }
        tape.put(a);
        tape.put(b);
        tape.put(c);
        tape.put(d);
        tape.put(e);
        return tape.length;
    }

    public boolean end(int n) {
        if (n < 0 || n > tape.length) {
            return false;
        }
        tape.length = n;
        return true;
    }

    public int army() {
        reader.begin(MOST_ARMY_BYTES);
        int lines = newArmy.readFrom(reader);
        tape.length = 0;
        fault = reader.fault;
        if (fault != 0) {
            return -1 - reader.faultPlace;
        }
        army.copyFrom(newArmy);
        now.begin();
        sentence.forget();
        past.forget();
        return lines;
    }

    public int fault() {
        return fault;
    }

    public int count(int what) {
        switch (what) {
            case 0: return army.men;
            case 1: return army.orders;
            case 2: return army.foes;
            case 3: return army.clear;
            case 4: return army.rain;
            case 5: return tape.length;
            default: return NONE;
        }
    }

    // ---- what is so

    public int man(int m, int what) throws NoSuchElementException {
        if (!isMan(m) || what < 0 || what > 9) {
            throw new NoSuchElementException("no such man, or nothing such of him");
        }
        switch (what) {
            case 0: return now.x[m];
            case 1: return now.y[m];
            case 2: return now.browOf(m);
            case 3: return bit(now.asleep, m);
            case 4: return bit(now.sooted, m);
            case 5: return now.heard[m];
            case 6: return now.order[m];
            case 7: return bit(now.toPassOn, m);
            case 8: return now.lost[m];
            default: return army.under[m];
        }
    }

    public int order(int o, int what) {
        if (!isOrder(o)) {
            return NONE;
        }
        switch (what) {
            case 0: return army.first[o];
            case 1: return army.second[o];
            case 2: return now.holdersOf(o);
            default: return NONE;
        }
    }

    public int now(int what) {
        switch (what) {
            case 0: return now.hour;
            case 1: return now.asleep;
            case 2: return now.sooted;
            case 3: return now.holders();
            case 4: return now.toPassOn;
            case 5: return now.allLost();
            case 6: return now.lifts;
            default: return NONE;
        }
    }

    // ---- acts

    public int lift(int m, int lift) {
        return isMan(m) && isLift(lift) ? act(TO_LIFT, m, lift) : NONE;
    }

    public int give(int m, int o) {
        return isMan(m) && isOrder(o) ? act(TO_GIVE, m, o) : NONE;
    }

    public int sleep(int m) {
        return isMan(m) ? act(TO_SLEEP, m, 0) : NONE;
    }

    public int wake(int m) {
        return isMan(m) ? act(TO_WAKE, m, 0) : NONE;
    }

    public int soot(int m) {
        return isMan(m) ? act(TO_SOOT, m, 0) : NONE;
    }

    public int go(int m, int side) {
        return isMan(m) && side >= 0 && side < SIDES ? act(TO_GO, m, side) : NONE;
    }

    public int hours(int n) {
        if (n < 1 || n > MOST_HOURS) {
            return NONE;
        }
        trial.copyFrom(now);
        int gone = trial.passHours(n);
        if (gone > 0) {
            settleTrial();
        }
        return gone;
    }

    public int undo() {
        return past.bringBack(now);
    }

    // ---- who sees whom, whom an order would reach

    public int sees(int m) {
        return isMan(m) ? now.seenBy(m) : NONE;
    }

    public int reads(int m) {
        return isMan(m) ? now.readersOf(m, now.rangeOf(m)) : NONE;
    }

    public int foes(int m) {
        return isMan(m) ? now.foesSeeing(m, now.x[m], now.y[m]) : NONE;
    }

    public int reach(int m, int o) {
        return isMan(m) && isOrder(o) ? reachOf(m, o) : NONE;
    }

    public int soon(int m, int o) {
        if (!isMan(m) || !isOrder(o)) {
            return NONE;
        }
        trial.copyFrom(now);
        if (trial.giveBy(m, o) != 0) {
            return NONE;
        }
        int all = army.allUnder(m);
        for (int n = 0; n <= HOURS_AHEAD; n++) {
            if ((trial.holdersOf(o) & all) == all) {
                return n;
            }
            if (trial.passHours(1) == 0) {
                return NONE;
            }
        }
        return NONE;
    }

    public int best(int o) {
        if (!isOrder(o)) {
            return NONE;
        }
        int best = NONE;
        int most = NONE;
        for (int m = 0; m < army.men; m++) {
            int reached = reachOf(m, o);
            if (reached != NONE && Integer.bitCount(reached) > most) {
                best = m;
                most = Integer.bitCount(reached);
            }
        }
        return best;
    }

    public int stand(int m) {
        if (!isMan(m)) {
            return NONE;
        }
        int most = NONE;
        int least = 0;
        for (int y = 0; y <= SIDE_OF_FIELD; y++) {
            for (int x = 0; x <= SIDE_OF_FIELD; x++) {
                int seers = now.underSeeing(m, x, y);
                int away = far(x, y, now.x[m], now.y[m]);
                if (seers > most || seers == most && away < least) {
                    most = seers;
                    least = away;
                    cellX = x;
                    cellY = y;
                }
            }
        }
        return most;
    }

    public int hide(int m) {
        if (!isMan(m)) {
            return NONE;
        }
        int least = NONE;
        for (int y = 0; y <= SIDE_OF_FIELD; y++) {
            for (int x = 0; x <= SIDE_OF_FIELD; x++) {
                int away = far(x, y, now.x[m], now.y[m]);
                boolean nearer = least == NONE || away < least;
                if (nearer && now.foesSeeing(m, x, y) == 0 && now.underSeeing(m, x, y) > 0) {
                    least = away;
                    cellX = x;
                    cellY = y;
                }
            }
        }
        return least;
    }

    public int cell(int what) {
        switch (what) {
            case 0: return cellX;
            case 1: return cellY;
            default: return NONE;
        }
    }

    // ---- what was meant, who it was

    public int meant() {
        int orders = guess.weigh(tape, army);
        tape.length = 0;
        return orders;
    }

    public int wrong() {
        return guess.wrong;
    }

    public int look() {
        return guess.look;
    }

    public int code() {
        return army.newLifts();
    }

    public int scratch() {
        int men = isScratchTape() ? scratchers() : NONE;
        tape.length = 0;
        if (men > 0) {
            toAsk = faceToAsk(men);
        }
        return men;
    }

    public int ask() {
        return toAsk;
    }

    public int unrest() {
        int restless = 0;
        for (int m = 0; m < army.men; m++) {
            int above = army.under[m];
            if (above != NONE && now.browOf(m) > now.browOf(above)) {
                restless |= 1 << m;
            }
        }
        return restless;
    }

    public int report(int m) {
        if (!isMan(m)) {
            return NONE;
        }
        report.write(m, now);
        return report.length;
    }

    public int byteAt(int i) {
        return i >= 0 && i < report.length ? report.bytes[i] : NONE;
    }

    // ---- hours by draws

    public int drawn(int n, int seed) {
        if (n < 1 || n > MOST_HOURS) {
            return NONE;
        }
        trial.copyFrom(now);
        int gone = trial.drawHours(n, seed);
        if (gone > 0) {
            settleTrial();
        }
        return gone;
    }

    public int odds(int m, int n, int seed) {
        if (!isMan(m) || n < 1 || n > MOST_SEEDS) {
            return NONE;
        }
        int times = 0;
        for (int k = 0; k < n; k++) {
            trial.copyFrom(now);
            trial.drawHours(HOURS_AHEAD, seed + k);
            if (trial.order[m] != NONE) {
                times++;
            }
        }
        return times;
    }

    // ---- books and sentences

    public int book(int lives) {
        if (lives != 0 && lives != 1) {
            return OTHER_LIVES;
        }
        reader.begin(MOST_BOOK_BYTES);
        book.readFrom(reader, army);
        tape.length = 0;
        fault = reader.fault;
        if (fault != 0) {
            return -2 - reader.faultPlace;
        }
        int wrongLine = tryBook();
        if (lives == 1 && book.lived > 0) {
            settleTrial();
        }
        return wrongLine;
    }

    public int told(int what) {
        switch (what) {
            case 0: return book.why;
            case 1: return book.lived;
            case 2: return book.hour;
            case 3: return book.holders;
            default: return NONE;
        }
    }

    public int sentence() {
        reader.begin(MOST_SENTENCE_BYTES);
        newSentence.forget();
        if (newSentence.readCondition(reader, army, 1) && reader.kind != END) {
            reader.refuse(CANNOT_COME);
        }
        tape.length = 0;
        fault = reader.fault;
        if (fault != 0) {
            return -1 - reader.faultPlace;
        }
        sentence.copyFrom(newSentence);
        return sentence.ones;
    }

    public int said(int k) {
        if (sentence.ones == 0 || k < NONE) {
            return NONE;
        }
        int men = sentence.menOf(now);
        return k == NONE ? Integer.bitCount(men) : bitNumber(men, k);
    }

    // ---- images

    public boolean image(int k) {
        if (k < 0 || k >= IMAGES) {
            return false;
        }
        images[k].keep(army, now, sentence);
        return true;
    }

    public boolean restore(int k) {
        if (k < 0 || k >= IMAGES || !images[k].kept) {
            return false;
        }
        army.copyFrom(images[k].army);
        now.copyFrom(images[k].state);
        sentence.copyFrom(images[k].sentence);
        past.forget();
        return true;
    }

    // ---- helpers of the face

    private boolean isMan(int m) {
        return m >= 0 && m < army.men;
    }

    private boolean isOrder(int o) {
        return o >= 0 && o < army.orders;
    }

    private static boolean isLift(int lift) {
        return lift >= 1 && lift <= KINDS_OF_LIFT;
    }

    private static int bit(int bits, int number) {
        return bits >> number & 1;
    }

    /** The number of the k-th bit that is set, or NONE. */
    private static int bitNumber(int bits, int k) {
        int before = 0;
        for (int number = 0; number < MOST_MEN; number++) {
            if (bit(bits, number) == 1) {
                if (before == k) {
                    return number;
                }
                before++;
            }
        }
        return NONE;
    }

    private static int far(int x, int y, int otherX, int otherY) {
        int across = x < otherX ? otherX - x : x - otherX;
        int down = y < otherY ? otherY - y : y - otherY;
        return across + down;
    }

    /** What is tried is tried on a copy, so that what can't be done leaves all as it was. */
    private int act(int verb, int m, int object) {
        trial.copyFrom(now);
        int whyNot = trial.live(verb, m, object);
        if (whyNot == 0) {
            settleTrial();
        }
        return whyNot;
    }

    private void settleTrial() {
        past.keep(now);
        now.copyFrom(trial);
    }

    private int reachOf(int m, int o) {
        trial.copyFrom(now);
        if (trial.giveBy(m, o) != 0) {
            return NONE;
        }
        trial.passHours(HOURS_AHEAD);
        return trial.holdersOf(o);
    }

    /** Lives the book's lines on the trial, up to the one that is wrong. */
    private int tryBook() {
        trial.copyFrom(now);
        book.why = 0;
        book.lived = 0;
        for (int line = 0; line < book.lines && book.why == 0; line++) {
            int whyNot = trial.live(book.verb[line], book.man[line], book.object[line]);
            if (whyNot == 0) {
                book.lived++;
            } else {
                book.why = 10 * book.verb[line] + whyNot;
            }
        }
        book.hour = trial.hour;
        book.holders = trial.holders();
        return book.why == 0 ? NONE : book.lived;
    }

    private boolean isScratchTape() {
        if (!tape.isPairs(MOST_MEN)) {
            return false;
        }
        for (int i = 0; i + 1 < tape.length; i += 2) {
            if (tape.bytes[i] >= army.men || tape.bytes[i + 1] > 1) {
                return false;
            }
        }
        return true;
    }

    private int scratchers() {
        int men = 0;
        for (int m = 0; m < army.men; m++) {
            int readers = now.readersOf(m, now.rangeOf(m));
            boolean fits = true;
            for (int i = 0; i + 1 < tape.length; i += 2) {
                fits = fits && bit(readers, tape.bytes[i]) == tape.bytes[i + 1];
            }
            if (fits) {
                men |= 1 << m;
            }
        }
        return men;
    }

    private int faceToAsk(int men) {
        int face = NONE;
        int least = 0;
        for (int m = 0; m < army.men; m++) {
            int read = 0;
            int unread = 0;
            for (int other = 0; other < army.men; other++) {
                if (bit(men, other) == 1) {
                    int does = bit(now.readersOf(other, now.rangeOf(other)), m);
                    read += does;
                    unread += 1 - does;
                }
            }
            int uneven = Math.abs(read - unread);
            if (face == NONE || uneven < least) {
                face = m;
                least = uneven;
            }
        }
        return face;
    }

    /** The words that no name may be. */
    private enum Word {
        MAN("man", PLAIN, 0), ORDER("order", PLAIN, 0), FOE("foe", PLAIN, 0),
        CLEAR("clear", PLAIN, 0), RAIN("rain", PLAIN, 0),
        LEFT("left", LIFT, 1), RIGHT("right", LIFT, 2), BOTH("both", LIFT, 3),
        LIFTS("lifts", VERB, TO_LIFT), GIVES("gives", VERB, TO_GIVE),
        SLEEPS("sleeps", VERB, TO_SLEEP), WAKES("wakes", VERB, TO_WAKE),
        SOOTS("soots", VERB, TO_SOOT), GOES("goes", VERB, TO_GO), HOUR("hour", PLAIN, TO_WAIT),
        EAST("east", SIDE, 0), SOUTH("south", SIDE, 1), WEST("west", SIDE, 2), NORTH("north", SIDE, 3),
        OR("or", PLAIN, 0), AND("and", PLAIN, 0), NOT("not", PLAIN, 0),
        ASLEEP("asleep", TRAIT, 0), SOOTED("sooted", TRAIT, 0), JOINED("joined", TRAIT, 0),
        GREY("grey", TRAIT, 0), IDLE("idle", TRAIT, 0),
        UNDER("under", OF_MAN, 0), SEES("sees", OF_MAN, 0), HAS("has", OF_ORDER, 0),
        BROW("brow", MEASURE, 0), HEARD("heard", MEASURE, 0), LOST("lost", MEASURE, 0),
        COUNT("number", MEASURE, 0);

        private static final Word[] ALL = values();

        final String text;
        final long packed;
        final int sort;
        final int number;

        Word(String text, int sort, int number) {
            this.text = text;
            this.packed = pack(text);
            this.sort = sort;
            this.number = number;
        }

        private static long pack(String text) {
            long packed = 0;
            for (int i = 0; i < text.length(); i++) {
                packed = packLetter(packed, text.charAt(i));
            }
            return packed;
        }

        /** Five bits a letter: a name of seven letters is one number, and needs no object. */
        static long packLetter(long packed, int letter) {
            return packed << 5 | letter - 'a' + 1;
        }

        static Word named(long packed) {
            for (int i = 0; i < ALL.length; i++) {
                if (ALL[i].packed == packed) {
                    return ALL[i];
                }
            }
            return null;
        }
    }

    private static final class Tape {
        final int[] bytes = new int[MOST_TAPE];
        int length;

        void put(int number) {
            for (int shift = 24; shift >= 0 && length < MOST_TAPE; shift -= 8) {
                bytes[length] = number >>> shift & 255;
                length++;
            }
        }

        boolean isPairs(int most) {
            return length >= 2 && length <= 2 * most && length % 2 == 0;
        }
    }

    /** Reads the tape token by token and remembers the first fault. */
    private static final class Reader {
        private static final int LONGEST_WORD = 7;
        private static final int LONGEST_NUMBER = 3;

        private final Tape tape;
        private int most;
        private int next;
        int kind;
        int place;
        int number;
        int sign;
        long name;
        Word word;
        int fault;
        int faultPlace;

        Reader(Tape tape) {
            this.tape = tape;
        }

        void begin(int most) {
            this.most = most;
            next = 0;
            fault = 0;
            faultPlace = 0;
            advance();
        }

        void advance() {
            while (next < tape.length && isBlank(tape.bytes[next])) {
                next++;
            }
            word = null;
            sign = 0;
            place = next;
            if (tape.length > most && next >= most) {
                kind = NO_TOKEN;
                place = most;
            } else if (next >= tape.length) {
                kind = END;
            } else if (isLetter(tape.bytes[next]) || isDigit(tape.bytes[next])) {
                readRun();
            } else {
                // a sign that no text has can't come anywhere, so it needs no kind of its own
                kind = SIGN;
                sign = tape.bytes[next];
                next++;
            }
        }

        private void readRun() {
            int start = next;
            int letters = 0;
            name = 0;
            number = 0;
            while (next < tape.length && (isLetter(tape.bytes[next]) || isDigit(tape.bytes[next]))) {
                int sort = tape.bytes[next];
                if (isLetter(sort)) {
                    letters++;
                    name = Word.packLetter(name, sort);
                } else {
                    number = 10 * number + sort - '0';
                }
                next++;
            }
            int length = next - start;
            if (letters == length && length <= LONGEST_WORD) {
                word = Word.named(name);
                kind = word == null ? NAME : WORD;
            } else {
                kind = letters == 0 && length <= LONGEST_NUMBER ? NUMBER : NO_TOKEN;
            }
        }

        private static boolean isBlank(int sign) {
            return sign == ' ' || sign == '\n';
        }

        private static boolean isLetter(int sign) {
            return sign >= 'a' && sign <= 'z';
        }

        private static boolean isDigit(int sign) {
            return sign >= '0' && sign <= '9';
        }

        /** A fault at the token that is read now; false, so that readers can hand it on. */
        boolean refuse(int kindOfFault) {
            fault = kindOfFault;
            faultPlace = place;
            return false;
        }

        int refuseNumber(int kindOfFault) {
            fault = kindOfFault;
            faultPlace = place;
            return NONE;
        }

        boolean takeSign(int due) {
            if (kind != SIGN || sign != due) {
                return refuse(CANNOT_COME);
            }
            advance();
            return true;
        }

        /** The number that must stand here, or NONE with a fault. */
        int numberHere(int least, int greatest) {
            if (kind != NUMBER) {
                return refuseNumber(CANNOT_COME);
            }
            return number < least || number > greatest ? refuseNumber(BAD_NUMBER) : number;
        }

        int takeNumber(int least, int greatest) {
            int taken = numberHere(least, greatest);
            if (taken != NONE) {
                advance();
            }
            return taken;
        }

        /** The number of the word of a sort that must stand here, or NONE with a fault. */
        int wordHere(int sort) {
            return word != null && word.sort == sort ? word.number : refuseNumber(CANNOT_COME);
        }

        int takeWord(int sort) {
            int taken = wordHere(sort);
            if (taken != NONE) {
                advance();
            }
            return taken;
        }

        /** The man who must be named here, or NONE with a fault. */
        int manHere(Army army) {
            if (kind != NAME) {
                return refuseNumber(CANNOT_COME);
            }
            int m = army.manNamed(name);
            return m == NONE ? refuseNumber(BAD_NAME) : m;
        }

        /** The order that must be named here, or NONE with a fault. */
        int orderHere(Army army) {
            if (kind != NAME) {
                return refuseNumber(CANNOT_COME);
            }
            int o = army.orderNamed(name);
            return o == NONE ? refuseNumber(BAD_NAME) : o;
        }

        int takeOrder(Army army) {
            int taken = orderHere(army);
            if (taken != NONE) {
                advance();
            }
            return taken;
        }
    }

    /** What an army's text told: it stays as long as the army does. */
    private static final class Army {
        final long[] manName = new long[MOST_MEN];
        final int[] startX = new int[MOST_MEN];
        final int[] startY = new int[MOST_MEN];
        final int[] brow = new int[MOST_MEN];
        final int[] under = new int[MOST_MEN];
        final long[] orderName = new long[MOST_ORDERS];
        final int[] first = new int[MOST_ORDERS];
        final int[] second = new int[MOST_ORDERS];
        final int[] foeX = new int[MOST_FOES];
        final int[] foeY = new int[MOST_FOES];
        int men;
        int joined;
        int grey;
        int orders;
        int foes;
        int clear = CLEAR_UNTOLD;
        int rain = RAIN_UNTOLD;

        void copyFrom(Army other) {
            System.arraycopy(other.manName, 0, manName, 0, MOST_MEN);
            System.arraycopy(other.startX, 0, startX, 0, MOST_MEN);
            System.arraycopy(other.startY, 0, startY, 0, MOST_MEN);
            System.arraycopy(other.brow, 0, brow, 0, MOST_MEN);
            System.arraycopy(other.under, 0, under, 0, MOST_MEN);
            System.arraycopy(other.orderName, 0, orderName, 0, MOST_ORDERS);
            System.arraycopy(other.first, 0, first, 0, MOST_ORDERS);
            System.arraycopy(other.second, 0, second, 0, MOST_ORDERS);
            System.arraycopy(other.foeX, 0, foeX, 0, MOST_FOES);
            System.arraycopy(other.foeY, 0, foeY, 0, MOST_FOES);
            men = other.men;
            joined = other.joined;
            grey = other.grey;
            orders = other.orders;
            foes = other.foes;
            clear = other.clear;
            rain = other.rain;
        }

        // ---- the text

        /** How many lines there are; what it reads is for nothing if the reader has a fault. */
        int readFrom(Reader reader) {
            men = 0;
            joined = 0;
            grey = 0;
            orders = 0;
            foes = 0;
            clear = NONE;
            rain = NONE;
            int lines = 0;
            while (lines < MOST_ARMY_BYTES && reader.kind != END) {
                if (!readLine(reader) || !reader.takeSign(';')) {
                    return lines;
                }
                lines++;
            }
            clear = clear == NONE ? CLEAR_UNTOLD : clear;
            rain = rain == NONE ? RAIN_UNTOLD : rain;
            return lines;
        }

        private boolean readLine(Reader reader) {
            Word word = reader.word;
            if (word == Word.MAN) {
                return readMan(reader);
            }
            if (word == Word.UNDER) {
                return readUnder(reader);
            }
            if (word == Word.ORDER) {
                return readOrder(reader);
            }
            if (word == Word.FOE) {
                return readFoe(reader);
            }
            if (word == Word.CLEAR) {
                clear = readOnce(reader, clear, MOST_CLEAR);
                return clear != NONE;
            }
            if (word == Word.RAIN) {
                rain = readOnce(reader, rain, MOST_RAIN);
                return rain != NONE;
            }
            return reader.refuse(CANNOT_COME);
        }

        private boolean readMan(Reader reader) {
            if (men >= MOST_MEN) {
                return reader.refuse(TOO_MANY);
            }
            reader.advance();
            if (!isNewName(reader)) {
                return false;
            }
            manName[men] = reader.name;
            reader.advance();
            startX[men] = reader.takeNumber(0, SIDE_OF_FIELD);
            if (startX[men] == NONE) {
                return false;
            }
            startY[men] = reader.takeNumber(0, SIDE_OF_FIELD);
            if (startY[men] == NONE) {
                return false;
            }
            brow[men] = reader.takeNumber(0, THICKEST);
            if (brow[men] == NONE) {
                return false;
            }
            if (reader.word == Word.JOINED) {
                joined |= 1 << men;
                reader.advance();
            }
            if (reader.word == Word.GREY) {
                grey |= 1 << men;
                reader.advance();
            }
            under[men] = NONE;
            men++;
            return true;
        }

        private boolean readUnder(Reader reader) {
            reader.advance();
            int lower = reader.manHere(this);
            if (lower == NONE) {
                return false;
            }
            if (under[lower] != NONE) {
                return reader.refuse(BAD_NAME);
            }
            reader.advance();
            int upper = reader.manHere(this);
            if (upper == NONE) {
                return false;
            }
            if (upper == lower || isUnder(upper, lower)) {
                return reader.refuse(BAD_NAME);
            }
            under[lower] = upper;
            reader.advance();
            return true;
        }

        private boolean readOrder(Reader reader) {
            if (orders >= MOST_ORDERS) {
                return reader.refuse(TOO_MANY);
            }
            reader.advance();
            if (!isNewName(reader)) {
                return false;
            }
            orderName[orders] = reader.name;
            reader.advance();
            first[orders] = reader.takeWord(LIFT);
            if (first[orders] == NONE) {
                return false;
            }
            second[orders] = reader.wordHere(LIFT);
            if (second[orders] == NONE) {
                return false;
            }
            if (orderOf(first[orders], second[orders]) != NONE) {
                return reader.refuse(BAD_NAME);
            }
            orders++;
            reader.advance();
            return true;
        }

        private boolean readFoe(Reader reader) {
            if (foes >= MOST_FOES) {
                return reader.refuse(TOO_MANY);
            }
            reader.advance();
            foeX[foes] = reader.takeNumber(0, SIDE_OF_FIELD);
            if (foeX[foes] == NONE) {
                return false;
            }
            foeY[foes] = reader.takeNumber(0, SIDE_OF_FIELD);
            if (foeY[foes] == NONE) {
                return false;
            }
            foes++;
            return true;
        }

        private static int readOnce(Reader reader, int toldBefore, int greatest) {
            if (toldBefore != NONE) {
                return reader.refuseNumber(BAD_NAME);
            }
            reader.advance();
            return reader.takeNumber(1, greatest);
        }

        private boolean isNewName(Reader reader) {
            if (reader.kind != NAME) {
                return reader.refuse(CANNOT_COME);
            }
            if (manNamed(reader.name) != NONE || orderNamed(reader.name) != NONE) {
                return reader.refuse(BAD_NAME);
            }
            return true;
        }

        // ---- what it says

        int manNamed(long name) {
            for (int m = 0; m < men; m++) {
                if (manName[m] == name) {
                    return m;
                }
            }
            return NONE;
        }

        int orderNamed(long name) {
            for (int o = 0; o < orders; o++) {
                if (orderName[o] == name) {
                    return o;
                }
            }
            return NONE;
        }

        int orderOf(int firstLift, int secondLift) {
            for (int o = 0; o < orders; o++) {
                if (first[o] == firstLift && second[o] == secondLift) {
                    return o;
                }
            }
            return NONE;
        }

        int allMen() {
            return (1 << men) - 1;
        }

        /** Whether a man is under another one, over others, too. */
        boolean isUnder(int m, int other) {
            int above = under[m];
            for (int n = 0; n < MOST_MEN && above != NONE; n++) {
                if (above == other) {
                    return true;
                }
                above = under[above];
            }
            return false;
        }

        int allUnder(int m) {
            int all = 0;
            for (int other = 0; other < men; other++) {
                if (isUnder(other, m)) {
                    all |= 1 << other;
                }
            }
            return all;
        }

        /** Those under him, not over others. */
        int straightUnder(int m) {
            int lower = 0;
            for (int other = 0; other < men; other++) {
                if (under[other] == m) {
                    lower |= 1 << other;
                }
            }
            return lower;
        }

        /** By how many lifts an order is unlike these. */
        int unlike(int o, int firstLift, int secondLift) {
            return (first[o] == firstLift ? 0 : 1) + (second[o] == secondLift ? 0 : 1);
        }

        int newLifts() {
            int code = NONE;
            int most = NONE;
            for (int firstLift = 1; firstLift <= KINDS_OF_LIFT; firstLift++) {
                for (int secondLift = 1; secondLift <= KINDS_OF_LIFT; secondLift++) {
                    int fewest = fewestUnlike(firstLift, secondLift);
                    // 0 unlike: an order has these two
                    if (fewest > 0 && fewest > most) {
                        most = fewest;
                        code = 4 * firstLift + secondLift;
                    }
                }
            }
            return code;
        }

        private int fewestUnlike(int firstLift, int secondLift) {
            int fewest = 2;
            for (int o = 0; o < orders; o++) {
                fewest = Math.min(fewest, unlike(o, firstLift, secondLift));
            }
            return fewest;
        }
    }

    /** What is so of an army at an hour, and all that can be done in it. */
    private static final class State {
        final Army army;
        final int[] x = new int[MOST_MEN];
        final int[] y = new int[MOST_MEN];
        final int[] heard = new int[MOST_MEN];
        final int[] order = new int[MOST_MEN];
        final int[] lost = new int[MOST_MEN];
        private final int[] orderAtFirst = new int[MOST_MEN];
        int asleep;
        int sooted;
        int toPassOn;
        int hour;
        int lifts;
        private int seed;

        State(Army army) {
            this.army = army;
        }

        void begin() {
            for (int m = 0; m < army.men; m++) {
                x[m] = army.startX[m];
                y[m] = army.startY[m];
                heard[m] = 0;
                order[m] = NONE;
                lost[m] = 0;
            }
            asleep = 0;
            sooted = 0;
            toPassOn = 0;
            hour = 0;
            lifts = 0;
        }

        void copyFrom(State other) {
            System.arraycopy(other.x, 0, x, 0, MOST_MEN);
            System.arraycopy(other.y, 0, y, 0, MOST_MEN);
            System.arraycopy(other.heard, 0, heard, 0, MOST_MEN);
            System.arraycopy(other.order, 0, order, 0, MOST_MEN);
            System.arraycopy(other.lost, 0, lost, 0, MOST_MEN);
            asleep = other.asleep;
            sooted = other.sooted;
            toPassOn = other.toPassOn;
            hour = other.hour;
            lifts = other.lifts;
        }

        // ---- who sees whom

        int browOf(int m) {
            return Math.min(THICKEST, army.brow[m] + SOOT * bit(sooted, m));
        }

        /** How far off he is seen; NONE, if nobody sees him, not even where he stands. */
        int rangeOf(int m) {
            int brow = browOf(m);
            return brow == 0 ? NONE : brow * army.clear;
        }

        int seenBy(int m) {
            int seen = 0;
            for (int other = 0; other < army.men; other++) {
                if (other != m && far(x[m], y[m], x[other], y[other]) <= rangeOf(other)) {
                    seen |= 1 << other;
                }
            }
            return bit(asleep, m) == 1 ? 0 : seen;
        }

        /** The range is handed in: lifting knows it already. */
        int readersOf(int m, int range) {
            int readers = 0;
            for (int other = 0; other < army.men; other++) {
                if (army.under[other] == m && far(x[m], y[m], x[other], y[other]) <= range) {
                    readers |= 1 << other;
                }
            }
            return readers & ~asleep;
        }

        /** The foes that would see a man, if he were there. */
        int foesSeeing(int m, int thereX, int thereY) {
            int range = rangeOf(m);
            int seeing = 0;
            for (int f = 0; f < army.foes; f++) {
                if (far(thereX, thereY, army.foeX[f], army.foeY[f]) <= range) {
                    seeing |= 1 << f;
                }
            }
            return seeing;
        }

        /** How many straight under a man would see him, asleep or not, if he were there. */
        int underSeeing(int m, int thereX, int thereY) {
            int range = rangeOf(m);
            int seeing = 0;
            for (int other = 0; other < army.men; other++) {
                if (army.under[other] == m && far(thereX, thereY, x[other], y[other]) <= range) {
                    seeing++;
                }
            }
            return seeing;
        }

        // ---- who has what

        int holdersOf(int o) {
            int holders = 0;
            for (int m = 0; m < army.men; m++) {
                if (order[m] == o) {
                    holders |= 1 << m;
                }
            }
            return holders;
        }

        int holders() {
            return army.allMen() & ~holdersOf(NONE);
        }

        int allLost() {
            int all = 0;
            for (int m = 0; m < army.men; m++) {
                all += lost[m];
            }
            return all;
        }

        // ---- acts: 0, or 1 and nothing is changed

        int live(int verb, int m, int object) {
            switch (verb) {
                case TO_LIFT: return liftBy(m, object);
                case TO_GIVE: return giveBy(m, object);
                case TO_SLEEP: return sleepBy(m);
                case TO_WAKE: return wakeBy(m);
                case TO_SOOT: return sootBy(m);
                case TO_GO: return goBy(m, object);
                default:
                    if (LAST_HOUR - hour < object) {
                        return 1;
                    }
                    passHours(object);
                    return 0;
            }
        }

        private int liftBy(int m, int lift) {
            int brow = browOf(m);
            if (brow == 0) {
                return 1;
            }
            lifts++;
            int readers = readersOf(m, brow * army.clear);
            for (int other = 0; other < army.men; other++) {
                if (bit(readers, other) == 1) {
                    hear(other, lift);
                }
            }
            return 0;
        }

        private void hear(int m, int lift) {
            if (bit(army.joined, m) == 1 && order[m] != NONE) {
                return;
            }
            if (heard[m] == 0) {
                heard[m] = lift;
                return;
            }
            int meant = army.orderOf(heard[m], lift);
            heard[m] = 0;
            if (meant == NONE) {
                lost[m] = Math.min(MOST_LOST, lost[m] + 1);
            } else {
                order[m] = meant;
                toPassOn |= 1 << m;
            }
        }

        int giveBy(int m, int o) {
            if (liftBy(m, army.first[o]) != 0) {
                return 1;
            }
            return liftBy(m, army.second[o]);
        }

        private int sleepBy(int m) {
            int whyNot = bit(asleep, m);
            asleep |= 1 << m;
            return whyNot;
        }

        private int wakeBy(int m) {
            int whyNot = 1 - bit(asleep, m);
            asleep &= ~(1 << m);
            return whyNot;
        }

        private int sootBy(int m) {
            int whyNot = bit(sooted, m);
            sooted |= 1 << m;
            return whyNot;
        }

        private int goBy(int m, int side) {
            int toX = x[m] + (side == 0 ? 1 : side == 2 ? -1 : 0);
            int toY = y[m] + (side == 1 ? 1 : side == 3 ? -1 : 0);
            if (toX < 0 || toX > SIDE_OF_FIELD || toY < 0 || toY > SIDE_OF_FIELD) {
                return 1;
            }
            x[m] = toX;
            y[m] = toY;
            return 0;
        }

        // ---- hours

        /** How many went by: fewer, if all are over. */
        int passHours(int n) {
            int gone = Math.min(n, LAST_HOUR - hour);
            for (int i = 0; i < gone; i++) {
                int passing = toPassOn;
                System.arraycopy(order, 0, orderAtFirst, 0, MOST_MEN);
                // cleared ahead of all, so that what comes to a man in this hour is still to be passed on
                toPassOn = 0;
                for (int m = 0; m < army.men; m++) {
                    if (bit(passing, m) == 1 && orderAtFirst[m] != NONE) {
                        giveBy(m, orderAtFirst[m]);
                    }
                }
                hour++;
                if (army.rain > 0 && hour % army.rain == 0) {
                    sooted = 0;
                }
            }
            return gone;
        }

        int drawHours(int n, int firstSeed) {
            seed = firstSeed;
            int gone = 0;
            while (gone < n && hour < LAST_HOUR) {
                for (int m = 0; m < army.men; m++) {
                    drawFor(m);
                }
                passHours(1);
                gone++;
            }
            return gone;
        }

        private void drawFor(int m) {
            switch (draw(8)) {
                case 0:
                    liftBy(m, draw(KINDS_OF_LIFT) + 1);
                    break;
                case 1:
                    asleep ^= 1 << m;
                    break;
                case 2:
                    goBy(m, draw(SIDES));
                    break;
                case 3:
                    drawOrderFor(m);
                    break;
                default:
                    break;
            }
        }

        /** It is drawn for a man who is under somebody, too: the draws that follow hang on it. */
        private void drawOrderFor(int m) {
            if (army.orders > 0) {
                int o = draw(army.orders);
                if (army.under[m] == NONE) {
                    giveBy(m, o);
                }
            }
        }

        private int draw(int n) {
            seed = seed * 1103515245 + 12345;
            return n > 0 ? (seed >>> 8) % n : 0;
        }
    }

    /** The states ahead of the latest acts, in a ring. */
    private static final class Past {
        private final State[] states;
        private int oldest;
        private int kept;

        Past(Army army) {
            states = new State[MOST_UNDONE];
            for (int i = 0; i < MOST_UNDONE; i++) {
                states[i] = new State(army);
            }
        }

        void keep(State state) {
            states[(oldest + kept) % MOST_UNDONE].copyFrom(state);
            if (kept < MOST_UNDONE) {
                kept++;
            } else {
                oldest = (oldest + 1) % MOST_UNDONE;
            }
        }

        int bringBack(State state) {
            if (kept == 0) {
                return NONE;
            }
            kept--;
            state.copyFrom(states[(oldest + kept) % MOST_UNDONE]);
            return kept;
        }

        void forget() {
            kept = 0;
        }
    }

    private static final class Image {
        final Army army;
        final State state;
        final Sentence sentence;
        boolean kept;

        Image() {
            army = new Army();
            state = new State(army);
            sentence = new Sentence();
        }

        void keep(Army otherArmy, State otherState, Sentence otherSentence) {
            army.copyFrom(otherArmy);
            state.copyFrom(otherState);
            sentence.copyFrom(otherSentence);
            kept = true;
        }
    }

    /**
     * The lines of a book, object being a lift, an order, a side or how many hours; and what is told
     * of the latest one without a fault.
     */
    private static final class Book {
        final int[] verb = new int[MOST_LINES];
        final int[] man = new int[MOST_LINES];
        final int[] object = new int[MOST_LINES];
        int lines;
        int why = NONE;
        int lived = NONE;
        int hour = NONE;
        int holders = NONE;

        /** What it reads is for nothing if the reader has a fault. */
        void readFrom(Reader reader, Army army) {
            lines = 0;
            // one line more than may be, so that it is refused
            for (int n = 0; n <= MOST_LINES && reader.kind != END; n++) {
                if (!readLine(reader, army) || !reader.takeSign(';')) {
                    return;
                }
                lines++;
            }
        }

        private boolean readLine(Reader reader, Army army) {
            boolean isHour = reader.word == Word.HOUR;
            int m = isHour ? 0 : reader.manHere(army);
            if (m == NONE) {
                return false;
            }
            if (lines >= MOST_LINES) {
                return reader.refuse(TOO_MANY);
            }
            man[lines] = m;
            reader.advance();
            verb[lines] = isHour ? TO_WAIT : reader.takeWord(VERB);
            if (verb[lines] == NONE) {
                return false;
            }
            object[lines] = readObject(verb[lines], reader, army);
            return object[lines] != NONE;
        }

        private static int readObject(int verb, Reader reader, Army army) {
            switch (verb) {
                case TO_LIFT: return reader.takeWord(LIFT);
                case TO_GIVE: return reader.takeOrder(army);
                case TO_GO: return reader.takeWord(SIDE);
                case TO_WAIT: return reader.takeNumber(1, MOST_HOURS);
                default: return 0;
            }
        }
    }

    /** A condition as steps, each behind what it joins, answered for all men at once as bits. */
    private static final class Sentence {
        private final Word[] step = new Word[MOST_STEPS];
        private final int[] object = new int[MOST_STEPS];
        private final int[] sign = new int[MOST_STEPS];
        private final int[] stack = new int[MOST_STEPS];
        private int steps;
        int ones;

        void forget() {
            ones = 0;
            steps = 0;
        }

        void copyFrom(Sentence other) {
            for (int i = 0; i < other.steps; i++) {
                step[i] = other.step[i];
                object[i] = other.object[i];
                sign[i] = other.sign[i];
            }
            steps = other.steps;
            ones = other.ones;
        }

        // ---- the text

        /** Depth is how many ones this one's ones stand in, and 1: the outermost are 1 deep. */
        boolean readCondition(Reader reader, Army army, int depth) {
            if (!readAll(reader, army, depth)) {
                return false;
            }
            for (int n = 0; n < MOST_ONES && reader.word == Word.OR; n++) {
                reader.advance();
                if (!readAll(reader, army, depth)) {
                    return false;
                }
                add(Word.OR, 0, 0);
            }
            return true;
        }

        private boolean readAll(Reader reader, Army army, int depth) {
            if (!readOne(reader, army, depth)) {
                return false;
            }
            for (int n = 0; n < MOST_ONES && reader.word == Word.AND; n++) {
                reader.advance();
                if (!readOne(reader, army, depth)) {
                    return false;
                }
                add(Word.AND, 0, 0);
            }
            return true;
        }

        private boolean readOne(Reader reader, Army army, int depth) {
            boolean isBracket = reader.sign == '(';
            Word word = reader.word;
            if (!isBracket && !canBegin(word)) {
                return reader.refuse(CANNOT_COME);
            }
            if (ones >= MOST_ONES || depth > MOST_WITHIN) {
                return reader.refuse(TOO_MANY);
            }
            ones++;
            reader.advance();
            if (isBracket) {
                return readCondition(reader, army, depth + 1) && reader.takeSign(')');
            }
            if (word == Word.NOT) {
                if (!readOne(reader, army, depth + 1)) {
                    return false;
                }
                add(Word.NOT, 0, 0);
                return true;
            }
            return readPlain(word, reader, army);
        }

        private static boolean canBegin(Word word) {
            return word == Word.NOT || word != null && word.sort >= TRAIT;
        }

        private boolean readPlain(Word word, Reader reader, Army army) {
            int told = 0;
            int compared = 0;
            if (word.sort == OF_MAN) {
                told = reader.manHere(army);
            } else if (word.sort == OF_ORDER) {
                told = reader.orderHere(army);
            } else if (word.sort == MEASURE) {
                compared = reader.sign;
                if (compared != '<' && compared != '=' && compared != '>') {
                    return reader.refuse(CANNOT_COME);
                }
                reader.advance();
                told = reader.numberHere(0, GREATEST_NUMBER);
            }
            if (told == NONE) {
                return false;
            }
            if (word.sort != TRAIT) {
                reader.advance();
            }
            add(word, told, compared);
            return true;
        }

        private void add(Word word, int told, int compared) {
            if (steps < MOST_STEPS) {
                step[steps] = word;
                object[steps] = told;
                sign[steps] = compared;
                steps++;
            }
        }

        // ---- of whom it may be said

        int menOf(State state) {
            int all = state.army.allMen();
            int height = 0;
            for (int i = 0; i < steps; i++) {
                Word word = step[i];
                if (word == Word.NOT && height >= 1) {
                    stack[height - 1] = all & ~stack[height - 1];
                } else if (word == Word.AND && height >= 2) {
                    height--;
                    stack[height - 1] &= stack[height];
                } else if (word == Word.OR && height >= 2) {
                    height--;
                    stack[height - 1] |= stack[height];
                } else {
                    stack[height] = menOfPlain(word, i, state);
                    height++;
                }
            }
            return height > 0 ? stack[0] : 0;
        }

        private int menOfPlain(Word word, int i, State state) {
            if (word == Word.ASLEEP) {
                return state.asleep;
            }
            if (word == Word.SOOTED) {
                return state.sooted;
            }
            if (word == Word.JOINED) {
                return state.army.joined;
            }
            if (word == Word.GREY) {
                return state.army.grey;
            }
            if (word == Word.IDLE) {
                return state.holdersOf(NONE);
            }
            if (word == Word.UNDER) {
                return state.army.straightUnder(object[i]);
            }
            if (word == Word.SEES) {
                return menSeeing(object[i], state);
            }
            if (word == Word.HAS) {
                return state.holdersOf(object[i]);
            }
            return menByMeasure(word, i, state);
        }

        private static int menSeeing(int seen, State state) {
            int men = 0;
            for (int m = 0; m < state.army.men; m++) {
                men |= bit(state.seenBy(m), seen) << m;
            }
            return men;
        }

        private int menByMeasure(Word word, int i, State state) {
            int due = sign[i] == '<' ? -1 : sign[i] == '>' ? 1 : 0;
            int men = 0;
            for (int m = 0; m < state.army.men; m++) {
                if (Integer.compare(measure(word, m, state), object[i]) == due) {
                    men |= 1 << m;
                }
            }
            return men;
        }

        private static int measure(Word word, int m, State state) {
            if (word == Word.BROW) {
                return state.browOf(m);
            }
            if (word == Word.HEARD) {
                return state.heard[m];
            }
            return word == Word.LOST ? state.lost[m] : m;
        }
    }

    /** What was meant by lifts of which some went wrong. */
    private static final class Guess {
        int wrong = NONE;
        int look = NONE;

        int weigh(Tape tape, Army army) {
            if (army.orders == 0 || !isAsTold(tape)) {
                return NONE;
            }
            int orders = 0;
            int fewest = tape.length + 1;
            for (int o = 0; o < army.orders; o++) {
                int count = countWrong(tape, army.first[o], army.second[o]);
                if (count < fewest) {
                    fewest = count;
                    orders = 0;
                }
                if (count == fewest) {
                    orders |= 1 << o;
                }
            }
            wrong = fewest;
            look = mostLeft(orders, army.second, army.orders) < mostLeft(orders, army.first, army.orders) ? 1 : 0;
            return orders;
        }

        private static boolean isAsTold(Tape tape) {
            if (!tape.isPairs(MOST_SEEN_PAIRS)) {
                return false;
            }
            for (int i = 0; i < tape.length; i++) {
                if (tape.bytes[i] > KINDS_OF_LIFT) {
                    return false;
                }
            }
            return true;
        }

        private static int countWrong(Tape tape, int first, int second) {
            int count = 0;
            for (int i = 0; i < tape.length; i++) {
                int seen = tape.bytes[i];
                if (seen != 0 && seen != (i % 2 == 0 ? first : second)) {
                    count++;
                }
            }
            return count;
        }

        /** Of these orders the most that share one lift. */
        private static int mostLeft(int orders, int[] lifts, int count) {
            int most = 0;
            for (int lift = 1; lift <= KINDS_OF_LIFT; lift++) {
                int left = 0;
                for (int o = 0; o < count; o++) {
                    if (bit(orders, o) == 1 && lifts[o] == lift) {
                        left++;
                    }
                }
                most = Math.max(most, left);
            }
            return most;
        }
    }

    /** The latest report, as bytes. */
    private static final class Report {
        final int[] bytes = new int[MOST_REPORT_BYTES];
        int length;

        void write(int m, State state) {
            length = 0;
            addName(state.army.manName[m]);
            int o = state.order[m];
            if (o == NONE) {
                addText(" idle");
            } else {
                addText(" has ");
                addName(state.army.orderName[o]);
            }
            if (state.heard[m] != 0) {
                addText(" heard ");
                addText(liftText(state.heard[m]));
            }
            if (bit(state.asleep, m) == 1) {
                addText(" asleep");
            }
        }

        private static String liftText(int lift) {
            return lift == 1 ? Word.LEFT.text : lift == 2 ? Word.RIGHT.text : Word.BOTH.text;
        }

        private void addText(String text) {
            for (int i = 0; i < text.length(); i++) {
                addByte(text.charAt(i));
            }
        }

        private void addName(long packed) {
            for (int shift = 30; shift >= 0; shift -= 5) {
                int letter = (int) (packed >> shift & 31);
                if (letter > 0) {
                    addByte('a' + letter - 1);
                }
            }
        }

        private void addByte(int sign) {
            if (length < MOST_REPORT_BYTES) {
                bytes[length] = sign;
                length++;
            }
        }
    }
}
