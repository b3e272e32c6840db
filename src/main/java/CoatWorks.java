import java.util.Arrays;
import java.util.NoSuchElementException;

/** Coats that are to be clean by Thursday; ../shared/DOC.md says what each call promises. */
public final class CoatWorks {
    public static final int NONE = -1;

    private static final int NOT_AS_TOLD = -2;
    private static final int LAST_DAY = 199;

    private static final int FAULT_TOKEN = 1;
    private static final int FAULT_NUMBER = 2;
    private static final int FAULT_NAME = 3;
    private static final int FAULT_MANY = 4;

    /** The four sorts of NAMES; the WORDS that begin their LINES bear the same numbers. */
    private static final int SPOT = 0;
    private static final int AGENT = 1;
    private static final int CLOTH = 2;
    private static final int DRUM = 3;

    /** All WORDS that are no NAMES, by number, in the order in which Tape.WORDS has them. */
    private static final int WORD_LOADS = 4;
    private static final int WORD_EXPRESS = 7;
    private static final int WORD_BLEEDS = 8;
    private static final int WORD_NOT = 9;
    private static final int WORD_OR = 10;
    private static final int WORD_AND = 11;
    private static final int WORD_NO = 12;
    private static final int WORD_IS = 13;
    private static final int WORD_STANDS = 14;
    private static final int WORD_FAST = 15;
    private static final int WORD_CLAIMED = 16;
    private static final int WORD_AGE = 17;
    private static final int WORD_LATE = 18;
    private static final int WORD_PRICE = 19;
    private static final int WORD_WEIGHT = 20;
    private static final int WORD_SIZE = 21;
    private static final int WORD_COUNTER = 22;
    private static final int WORD_LOAD = 23;
    private static final int WORD_LOADED = 24;

    private static final int DONE = 1;
    private static final int AT_COUNTER = 2;
    private static final int FETCHED = 3;
    private static final int SOLD = 5;

    private static final int COUNTERS = 40;
    private static final int MOST_LOAD = 99;
    private static final int MOST_PLANNED = 10;
    private static final int BYTES_A_COAT = 6;
    private static final int UNREAD_DIGIT = 10;
    private static final int IMAGES = 2;

    private final Tape tape = new Tape();
    private final Works now = new Works();
    private final Works[] kept = new Works[IMAGES];
    private final Planner planner = new Planner();
    private final Finder finder = new Finder();
    private final Spotter spotter = new Spotter();
    private final Blame blame = new Blame();
    private final Van van = new Van();
    private final int[] recalledTickets = new int[Tickets.MOST];
    private House draftHouse = new House();
    private Rule draftRule = new Rule();
    private int recalledCount = 0;
    private int latestFault = 0;

    public CoatWorks() {
    }

    // ---- the tape ----

    public int feed(int a, int b, int c, int d, int e) {
        if (tape.size > Tape.MOST - 20) {
            return NONE;
        }
        tape.append(a);
        tape.append(b);
        tape.append(c);
        tape.append(d);
        tape.append(e);
        return tape.size;
    }

    public boolean end(int n) {
        if (n < 0 || n > tape.size) {
            return false;
        }
        tape.size = n;
        return true;
    }

    // ---- the HOUSE and the days ----

    public int house() {
        boolean good = draftHouse.readFrom(tape);
        tape.size = 0;
        if (!good) {
            latestFault = tape.faultKind;
            return -1 - tape.faultAt;
        }
        latestFault = 0;
        House old = now.house;
        now.house = draftHouse;
        draftHouse = old;
        now.rule.forget();
        now.tickets.forgetAll();
        now.ledger.forgetAllButPlaces();
        return now.house.lines;
    }

    public int fault() {
        return latestFault;
    }

    public int later(int n) {
        if (n < 0 || n > LAST_DAY || now.today + n > LAST_DAY) {
            return NONE;
        }
        now.today += n;
        return now.today;
    }

    // ---- TICKETS and NEWS ----

    public int ticket(int kind, int weight, int size, int marks, int counter, int due) {
        boolean express = kind >= 100;
        int plain = express ? kind - 100 : kind;
        if (now.tickets.size >= Tickets.MOST || plain < 0 || plain >= 3 * now.house.told[CLOTH]) {
            return NONE;
        }
        if (!within(weight, 1, 200) || !within(size, 0, 9) || !within(marks, 0, 255)
                || !isCounter(counter) || !within(due, now.today, LAST_DAY)) {
            return NONE;
        }
        int cloth = plain / 3;
        int t = now.tickets.addEmpty();
        now.tickets.set(t, Tickets.CLOTH_OF, cloth);
        now.tickets.set(t, Tickets.SHADE, plain % 3);
        now.tickets.set(t, Tickets.WEIGHT, weight);
        now.tickets.set(t, Tickets.SIZE, size);
        now.tickets.set(t, Tickets.MARKS, marks);
        now.tickets.set(t, Tickets.COUNTER, counter);
        now.tickets.set(t, Tickets.TAKEN, now.today);
        now.tickets.set(t, Tickets.DUE, due);
        now.tickets.set(t, Tickets.EXPRESS, express ? 1 : 0);
        now.tickets.set(t, Tickets.COST, now.house.costOf(cloth, express));
        return t;
    }

    public int about(int t, int what) throws NoSuchElementException {
        if (!isTicket(t) || !within(what, Tickets.CLOTH_OF, Tickets.LOAD)) {
            throw new NoSuchElementException("no such ticket, or nothing of it by that number");
        }
        return now.tickets.of(t, what);
    }

    public int news(int t, int what, int day) {
        if (!isTicket(t) || !within(what, DONE, SOLD)
                || !within(day, now.tickets.of(t, Tickets.TAKEN), now.today)) {
            return NONE;
        }
        return now.tickets.addNews(t, what, day, now.today);
    }

    public int stands(int t, int day, int by) {
        if (!isTicket(t) || !isDay(day) || !isDay(by)) {
            return NONE;
        }
        int taken = now.tickets.of(t, Tickets.TAKEN);
        return taken > day || taken > by ? NONE : now.tickets.standing(t, day, by);
    }

    public int open(int what) {
        if (!within(what, 0, 3)) {
            return NONE;
        }
        int sum = 0;
        for (int t = 0; t < now.tickets.size; t++) {
            sum += opened(t, what);
        }
        return sum;
    }

    /** What one TICKET adds to the answer of open(what). */
    private int opened(int t, int what) {
        boolean inWork = now.tickets.of(t, Tickets.AT) == 0;
        switch (what) {
            case 0:
                return now.tickets.isOpen(t) ? 1 : 0;
            case 1:
                return inWork ? 1 : 0;
            case 2:
                return inWork && now.tickets.of(t, Tickets.DUE) < now.today ? 1 : 0;
            default:
                return now.tickets.of(t, Tickets.AT) == FETCHED ? now.tickets.of(t, Tickets.COST) : 0;
        }
    }

    public int twice(int t) {
        if (t != NONE) {
            return !isTicket(t) ? NOT_AS_TOLD : now.tickets.wasDoneTwice(t) ? 1 : 0;
        }
        int many = 0;
        for (int i = 0; i < now.tickets.size; i++) {
            many += now.tickets.wasDoneTwice(i) ? 1 : 0;
        }
        return many;
    }

    public int unfetched(int day, int what) {
        if (!isDay(day) || !within(what, 0, 2)) {
            return NONE;
        }
        int many = 0;
        int cost = 0;
        int first = NONE;
        for (int t = 0; t < now.tickets.size; t++) {
            if (isUnfetched(t, day)) {
                many++;
                cost += now.tickets.of(t, Tickets.COST);
                first = first == NONE ? t : first;
            }
        }
        return what == 0 ? many : what == 1 ? cost : first;
    }

    private boolean isUnfetched(int t, int day) {
        return now.tickets.of(t, Tickets.DUE) + now.house.settings[House.SELL] <= day
                && now.tickets.standing(t, day, now.today) == AT_COUNTER;
    }

    // ---- CONTRACTS ----

    public boolean contract(int counter, int days, int pence) {
        if (!isCounter(counter) || !within(days, 0, 30) || !within(pence, 0, 999)) {
            return false;
        }
        now.ledger.contractDays[counter] = days;
        now.ledger.contractPence[counter] = pence;
        return true;
    }

    public int owed(int counter) {
        if (!isCounter(counter) || now.ledger.contractDays[counter] == NONE) {
            return NONE;
        }
        int lateDays = 0;
        for (int t = 0; t < now.tickets.size; t++) {
            if (now.tickets.of(t, Tickets.COUNTER) == counter) {
                int waited = now.tickets.daysToCounter(t, now.today);
                lateDays += Math.max(0, waited - now.ledger.contractDays[counter]);
            }
        }
        return lateDays * now.ledger.contractPence[counter];
    }

    // ---- LOADS that are still to be done ----

    public int loads() {
        return takePlanned(false) ? planner.fewestFrom(now.today, now.house.settings[House.LOADS]) : NOT_AS_TOLD;
    }

    public int hurry() {
        return takePlanned(true) ? planner.fewestFrom(now.today, now.house.settings[House.LOADS]) : NOT_AS_TOLD;
    }

    public int patience() {
        return takePlanned(false) ? planner.latestStart(now.today, now.house.settings[House.LOADS]) : NOT_AS_TOLD;
    }

    /** Hands the tape's TICKETS to the planner; hurried: the first of them as if DUE TODAY. */
    private boolean takePlanned(boolean hurried) {
        int many = tape.takeAll();
        if (!within(many, 1, MOST_PLANNED)) {
            return false;
        }
        planner.forgetAll();
        long seen = 0;
        for (int i = 0; i < many; i++) {
            int t = tape.byteAt(i);
            if (!isTicket(t) || (seen >> t & 1) != 0 || now.tickets.of(t, Tickets.AT) != 0) {
                return false;
            }
            seen |= 1L << t;
            int due = hurried && i == 0 ? now.today : now.tickets.of(t, Tickets.DUE);
            planner.insert(due, now.tickets.of(t, Tickets.SHADE), now.tickets.of(t, Tickets.WEIGHT),
                    now.house.heatOfCloth(now.tickets.of(t, Tickets.CLOTH_OF)));
        }
        planner.findFits(now.house);
        return true;
    }

    // ---- FOUND coats ----

    public long found() {
        int bytes = tape.takeAll();
        int coats = bytes / BYTES_A_COAT;
        if (bytes % BYTES_A_COAT != 0 || !within(coats, 1, Finder.MOST)) {
            return NONE;
        }
        for (int i = 0; i < coats; i++) {
            if (!isCoatAsTold(i * BYTES_A_COAT)) {
                return NONE;
            }
        }
        finder.start(coats, now.tickets.size);
        for (int t = 0; t < now.tickets.size; t++) {
            for (int i = 0; i < coats; i++) {
                if (fits(t, i * BYTES_A_COAT)) {
                    finder.allow(i, t);
                }
            }
        }
        long ways = finder.countWays();
        if (ways > 0) {
            finder.settleSure();
        }
        return ways;
    }

    private boolean isCoatAsTold(int at) {
        return tape.byteAt(at) < now.house.told[CLOTH] && tape.byteAt(at + 1) <= 2 && tape.byteAt(at + 2) <= 9
                && tape.byteAt(at + 4) <= UNREAD_DIGIT && tape.byteAt(at + 5) <= UNREAD_DIGIT;
    }

    private boolean fits(int t, int at) {
        int seen = tape.byteAt(at + 3);
        return now.tickets.isOpen(t)
                && now.tickets.of(t, Tickets.CLOTH_OF) == tape.byteAt(at)
                && now.tickets.of(t, Tickets.SHADE) == tape.byteAt(at + 1)
                && now.tickets.of(t, Tickets.SIZE) == tape.byteAt(at + 2)
                && (now.tickets.of(t, Tickets.MARKS) & seen) == seen
                && isDigit(t / 10, tape.byteAt(at + 4))
                && isDigit(t % 10, tape.byteAt(at + 5));
    }

    private static boolean isDigit(int digit, int read) {
        return read == UNREAD_DIGIT || read == digit;
    }

    public int sure(int i) {
        return within(i, 0, finder.settled - 1) ? finder.sureTickets[i] : NONE;
    }

    // ---- SPOTS and AGENTS ----

    public long best(int cloth) {
        if (!takeStain(cloth)) {
            return NONE;
        }
        return spotter.findOrder(now.house);
    }

    public int bestAt(int i) {
        return within(i, 0, spotter.ordered - 1) ? spotter.order[i] : NONE;
    }

    public long out(int cloth, int k) {
        if (!takeStain(cloth) || !within(k, 0, House.MOST_AGENTS)) {
            return NONE;
        }
        return spotter.mostOut(k);
    }

    /** Hands the tape's chances to the spotter, if they and the CLOTH are as told. */
    private boolean takeStain(int cloth) {
        int many = tape.takeAll();
        if (!within(cloth, 0, now.house.told[CLOTH] - 1) || many != now.house.told[SPOT]) {
            return false;
        }
        int sum = 0;
        for (int i = 0; i < many; i++) {
            sum += tape.byteAt(i);
        }
        if (sum != Spotter.PARTS) {
            return false;
        }
        spotter.findFailures(now.house, tape, now.house.usableOn(cloth));
        return true;
    }

    // ---- LOADS that were done ----

    public boolean loaded(int t, int load) {
        if (!isTicket(t) || !within(load, 1, MOST_LOAD)) {
            return false;
        }
        now.tickets.set(t, Tickets.LOAD, load);
        return true;
    }

    public boolean drum(int load, int drum) {
        if (!within(load, 1, MOST_LOAD) || !within(drum, 0, now.house.told[DRUM] - 1)) {
            return false;
        }
        now.ledger.drumOfLoad[load] = drum;
        return true;
    }

    public int run(int k) {
        if (k < NONE) {
            return NONE;
        }
        int many = 0;
        for (int t = 0; t < now.tickets.size; t++) {
            if (hasRun(t)) {
                if (many == k) {
                    return t;
                }
                many++;
            }
        }
        return k == NONE ? many : NONE;
    }

    private boolean hasRun(int t) {
        int load = now.tickets.of(t, Tickets.LOAD);
        if (load == 0 || now.tickets.of(t, Tickets.SHADE) == 2) {
            return false;
        }
        for (int i = 0; i < now.tickets.size; i++) {
            if (now.tickets.of(i, Tickets.LOAD) == load && now.tickets.of(i, Tickets.SHADE) == 2
                    && now.house.bleeds(now.tickets.of(i, Tickets.CLOTH_OF))) {
                return true;
            }
        }
        return false;
    }

    public int recall(int cloth, int heat) {
        if (!within(cloth, 0, now.house.told[CLOTH] - 1) || !within(heat, 0, 9)) {
            return NONE;
        }
        recalledCount = 0;
        for (int t = 0; t < now.tickets.size; t++) {
            int drum = now.ledger.drumOf(now.tickets.of(t, Tickets.LOAD));
            if (now.tickets.of(t, Tickets.CLOTH_OF) == cloth && now.house.heatOfDrum(drum) > heat) {
                recalledTickets[recalledCount] = t;
                recalledCount++;
            }
        }
        return recalledCount;
    }

    public int recalled(int k) {
        return within(k, 0, recalledCount - 1) ? recalledTickets[k] : NONE;
    }

    // ---- the RULE ----

    public int rule() {
        boolean good = draftRule.readFrom(tape, now.house);
        tape.size = 0;
        if (!good) {
            latestFault = tape.faultKind;
            return -1 - tape.faultAt;
        }
        latestFault = 0;
        Rule old = now.rule;
        now.rule = draftRule;
        draftRule = old;
        return now.rule.ones;
    }

    public int meets(int k) {
        if (now.rule.ones == 0 || k < NONE) {
            return NONE;
        }
        int many = 0;
        for (int t = 0; t < now.tickets.size; t++) {
            if (now.rule.holdsFor(now.tickets, t, now.today)) {
                if (many == k) {
                    return t;
                }
                many++;
            }
        }
        return k == NONE ? many : NONE;
    }

    // ---- CLAIMS and CAUSES ----

    public int claim(int t) {
        if (!isTicket(t) || now.tickets.claims >= Tickets.MOST_CLAIMS
                || now.tickets.of(t, Tickets.CLAIMED) != 0 || !now.tickets.isCleaned(t)) {
            return NONE;
        }
        now.tickets.set(t, Tickets.CLAIMED, 1);
        now.tickets.claims++;
        return now.tickets.claims;
    }

    public int possible(int cause) {
        return isPossible(cause) ? 1 : 0;
    }

    public int causes() {
        blame.start();
        for (int t = 0; t < now.tickets.size; t++) {
            if (now.tickets.of(t, Tickets.CLAIMED) != 0) {
                blame.beginClaim();
                int load = now.tickets.of(t, Tickets.LOAD);
                int cloth = Blame.FIRST_CLOTH + now.tickets.of(t, Tickets.CLOTH_OF);
                int counter = Blame.FIRST_COUNTER + now.tickets.of(t, Tickets.COUNTER);
                blame.addCause(0, isPossible(load) ? load : 0);
                blame.addCause(1, isPossible(cloth) ? cloth : 0);
                blame.addCause(2, isPossible(counter) ? counter : 0);
            }
        }
        return blame.chooseFewest();
    }

    public int cause(int i) {
        return within(i, 0, blame.chosenCount - 1) ? blame.chosen[i] : NONE;
    }

    private boolean isPossible(int cause) {
        boolean any = false;
        for (int t = 0; t < now.tickets.size; t++) {
            if (now.tickets.isCleaned(t) && hasCause(t, cause)) {
                if (now.tickets.of(t, Tickets.CLAIMED) == 0) {
                    return false;
                }
                any = true;
            }
        }
        return any;
    }

    private boolean hasCause(int t, int cause) {
        if (cause >= Blame.FIRST_COUNTER) {
            return now.tickets.of(t, Tickets.COUNTER) == cause - Blame.FIRST_COUNTER;
        }
        if (cause >= Blame.FIRST_CLOTH) {
            return now.tickets.of(t, Tickets.CLOTH_OF) == cause - Blame.FIRST_CLOTH;
        }
        return cause > 0 && now.tickets.of(t, Tickets.LOAD) == cause;
    }

    // ---- SOLVENT ----

    public int solvent(int bought, int kilos, int left) {
        if (!within(bought, 0, 30000) || !within(kilos, 0, 30000) || !within(left, 0, 30000)) {
            return NONE;
        }
        return now.ledger.addBookDay(bought, kilos, left);
    }

    public int lost(int d) throws NoSuchElementException {
        if (!within(d, 0, now.ledger.bookDays - 1)) {
            throw new NoSuchElementException("no such day in the book");
        }
        return now.ledger.lostOn(d);
    }

    public int broken() {
        return now.ledger.firstBroken(now.house.settings[House.LOSE]);
    }

    // ---- the VAN ----

    public boolean place(int counter, int x, int y) {
        if (!isCounter(counter) || !within(x, 0, 99) || !within(y, 0, 99)) {
            return false;
        }
        now.ledger.placeX[counter] = x;
        now.ledger.placeY[counter] = y;
        return true;
    }

    public int round() {
        int many = tape.takeAll();
        if (!within(many, 1, Van.MOST)) {
            return NONE;
        }
        long seen = 0;
        for (int i = 0; i < many; i++) {
            int counter = tape.byteAt(i);
            if (!isCounter(counter) || (seen >> counter & 1) != 0) {
                return NONE;
            }
            seen |= 1L << counter;
        }
        van.start();
        for (int i = 0; i < many; i++) {
            int counter = tape.byteAt(i);
            van.addStop(counter, now.ledger.placeX[counter], now.ledger.placeY[counter]);
        }
        return van.findRound();
    }

    public int roundAt(int i) {
        return within(i, 0, van.stops - 1) ? van.order[i] : NONE;
    }

    // ---- images ----

    public boolean image(int k) {
        if (!within(k, 0, IMAGES - 1)) {
            return false;
        }
        if (kept[k] == null) {
            kept[k] = new Works();
        }
        kept[k].copyFrom(now);
        return true;
    }

    public boolean restore(int k) {
        if (!within(k, 0, IMAGES - 1) || kept[k] == null) {
            return false;
        }
        now.copyFrom(kept[k]);
        return true;
    }

    public int count(int what) {
        switch (what) {
            case SPOT:
            case AGENT:
            case CLOTH:
            case DRUM:
                return now.house.told[what];
            case 4:
                return now.tickets.size;
            case 5:
                return now.tickets.newsSize;
            case 6:
                return now.today;
            case 7:
                return now.tickets.claims;
            case 8:
                return now.ledger.bookDays;
            case 9:
                return tape.size;
            default:
                return NONE;
        }
    }

    // ---- small questions ----

    private static boolean within(int n, int low, int high) {
        return n >= low && n <= high;
    }

    private static boolean isDay(int day) {
        return within(day, 0, LAST_DAY);
    }

    private static boolean isCounter(int counter) {
        return within(counter, 0, COUNTERS - 1);
    }

    private boolean isTicket(int t) {
        return within(t, 0, now.tickets.size - 1);
    }

    private static void copyRow(int[] from, int[] to) {
        System.arraycopy(from, 0, to, 0, Math.min(from.length, to.length));
    }

    /** The bytes that were fed, and the TOKENS that are read along them. */
    private static final class Tape {
        static final int MOST = 940;

        static final int END = 0;
        static final int WRONG = 1;
        static final int KEYWORD = 2;
        static final int NAME = 3;
        static final int NUMBER = 4;
        static final int SIGN = 5;

        private static final String WORDS = "spot agent cloth drum loads sell lose express bleeds not or and no is stands fast claimed age late price weight size counter load loaded";
        private static final int WORD_COUNT = 25;
        private static final int LONGEST_WORD = 7;
        private static final int LONGEST_NUMBER = 3;

        private final long[] wordCodes = codesOf(WORDS);
        private final int[] bytes = new int[MOST];
        private int size = 0;

        // the TOKENS of a text, the last of which is END or WRONG
        private final int[] kinds = new int[MOST + 1];
        private final int[] places = new int[MOST + 1];
        private final int[] values = new int[MOST + 1];
        private final long[] names = new long[MOST + 1];
        private int lastToken = 0;

        // the TOKEN that stands
        private int cursor = 0;
        private int kind = END;
        private int at = 0;
        private int value = 0;
        private long name = 0;

        private int faultKind = 0;
        private int faultAt = 0;

        /** A WORD as one number, so that WORDS can be compared without making texts. */
        private static long[] codesOf(String words) {
            long[] codes = new long[WORD_COUNT];
            int n = 0;
            for (int i = 0; i < words.length(); i++) {
                char c = words.charAt(i);
                if (c == ' ') {
                    n++;
                } else if (n < WORD_COUNT) {
                    codes[n] = withLetter(codes[n], c);
                }
            }
            return codes;
        }

        private static long withLetter(long code, int letter) {
            return code * 32 + (letter - 'a' + 1);
        }

        void append(int four) {
            for (int shift = 24; shift >= 0 && size < MOST; shift -= 8) {
                bytes[size] = four >> shift & 255;
                size++;
            }
        }

        int byteAt(int i) {
            return i >= 0 && i < MOST ? bytes[i] : 0;
        }

        /** Empties the tape; its bytes can still be read with byteAt till others are fed. */
        int takeAll() {
            int many = size;
            size = 0;
            return many;
        }

        /** Finds the TOKENS up to the first that is none, and stands at the first. */
        void startReading(int mostBytes) {
            int stop = Math.min(size, mostBytes);
            int p = 0;
            int n = 0;
            boolean wrong = false;
            while (p < stop && n < MOST && !wrong) {
                if (isBlank(bytes[p])) {
                    p++;
                } else {
                    p = readToken(n, p);
                    wrong = kinds[n] == WRONG;
                    n++;
                }
            }
            lastToken = wrong ? n - 1 : n;
            if (!wrong) {
                // a text that is too long has no END: it is wrong at its limit
                kinds[n] = size > mostBytes ? WRONG : END;
                places[n] = stop;
            }
            cursor = -1;
            advance();
        }

        /** The n-th TOKEN, which begins at from; answers where it ends. */
        private int readToken(int n, int from) {
            places[n] = from;
            if (isLetter(bytes[from]) || isFigure(bytes[from])) {
                return readRun(n, from);
            }
            kinds[n] = isSignByte(bytes[from]) ? SIGN : WRONG;
            values[n] = bytes[from];
            return from + 1;
        }

        /** A run of letters and digits is one WORD, one NUMBER, or no TOKEN; it may go beyond the limit. */
        private int readRun(int n, int from) {
            int letters = 0;
            int digits = 0;
            long code = 0;
            int number = 0;
            int p = from;
            while (p < size && (isLetter(bytes[p]) || isFigure(bytes[p]))) {
                if (isLetter(bytes[p])) {
                    letters++;
                    code = letters <= LONGEST_WORD ? withLetter(code, bytes[p]) : code;
                } else {
                    digits++;
                    number = digits <= LONGEST_NUMBER ? number * 10 + bytes[p] - '0' : number;
                }
                p++;
            }
            if (digits == 0 && letters <= LONGEST_WORD) {
                setWord(n, code);
            } else {
                kinds[n] = letters == 0 && digits <= LONGEST_NUMBER ? NUMBER : WRONG;
                values[n] = number;
            }
            return p;
        }

        private void setWord(int n, long code) {
            kinds[n] = NAME;
            names[n] = code;
            for (int i = 0; i < WORD_COUNT; i++) {
                if (wordCodes[i] == code) {
                    kinds[n] = KEYWORD;
                    values[n] = i;
                }
            }
        }

        /** Goes on to the next TOKEN; the last one stays. */
        void advance() {
            if (cursor < lastToken) {
                cursor++;
                kind = kinds[cursor];
                at = places[cursor];
                value = values[cursor];
                name = names[cursor];
            }
        }

        private static boolean isBlank(int c) {
            return c == 32 || c == 10;
        }

        private static boolean isLetter(int c) {
            return c >= 'a' && c <= 'z';
        }

        private static boolean isFigure(int c) {
            return c >= '0' && c <= '9';
        }

        private static boolean isSignByte(int c) {
            return c == ';' || c == '(' || c == ')' || c == '<' || c == '=' || c == '>';
        }

        boolean isWord(int keyword) {
            return kind == KEYWORD && value == keyword;
        }

        boolean isSign(char c) {
            return kind == SIGN && value == c;
        }

        /** Notes a FAULT at the TOKEN that stands; false, so that a reader can hand it on. */
        boolean fail(int faultyKind) {
            faultKind = faultyKind;
            faultAt = at;
            return false;
        }

        /** The NUMBER that stands, and goes on; NONE behind a FAULT. */
        int takeNumber(int low, int high) {
            if (kind != NUMBER) {
                fail(FAULT_TOKEN);
                return NONE;
            }
            if (!within(value, low, high)) {
                fail(FAULT_NUMBER);
                return NONE;
            }
            int number = value;
            advance();
            return number;
        }
    }

    /** What the works has: told as a text. */
    private static final class House {
        static final int MOST_BYTES = 900;
        static final int MOST_SPOTS = 6;
        static final int MOST_AGENTS = 6;
        static final int MOST_CLOTHS = 8;
        static final int MOST_DRUMS = 4;

        static final int LOADS = 0;
        static final int SELL = 1;
        static final int LOSE = 2;
        static final int EXPRESS = 3;
        private static final int SORTS = 4;
        private static final int NAMES_A_SORT = 8;
        private static final int[] MOST_OF_SORT = {MOST_SPOTS, MOST_AGENTS, MOST_CLOTHS, MOST_DRUMS};
        private static final int[] UNTOLD_SETTING = {2, 30, 20, 150};
        private static final int[] LEAST_SETTING = {1, 1, 0, 100};
        private static final int[] MOST_SETTING = {4, 99, 99, 300};

        private final long[] names = new long[SORTS * NAMES_A_SORT];
        private final int[] told = new int[SORTS];
        private final int[] agentCost = new int[MOST_AGENTS];
        private final int[] chance = new int[MOST_AGENTS * MOST_SPOTS];
        private final int[] clothHeat = new int[MOST_CLOTHS];
        private final int[] clothPrice = new int[MOST_CLOTHS];
        private final int[] clothBleeds = new int[MOST_CLOTHS];
        private final int[] clothBans = new int[MOST_CLOTHS];
        private final int[] drumKilos = new int[MOST_DRUMS];
        private final int[] drumHeat = new int[MOST_DRUMS];
        private final int[] settings = UNTOLD_SETTING.clone();
        private int settingsTold = 0;
        private int lines = 0;

        void copyFrom(House other) {
            System.arraycopy(other.names, 0, names, 0, names.length);
            copyRow(other.told, told);
            copyRow(other.agentCost, agentCost);
            copyRow(other.chance, chance);
            copyRow(other.clothHeat, clothHeat);
            copyRow(other.clothPrice, clothPrice);
            copyRow(other.clothBleeds, clothBleeds);
            copyRow(other.clothBans, clothBans);
            copyRow(other.drumKilos, drumKilos);
            copyRow(other.drumHeat, drumHeat);
            copyRow(other.settings, settings);
        }

        private void forgetAll() {
            Arrays.fill(told, 0);
            Arrays.fill(chance, 0);
            Arrays.fill(clothBleeds, 0);
            Arrays.fill(clothBans, 0);
            copyRow(UNTOLD_SETTING, settings);
            settingsTold = 0;
            lines = 0;
        }

        boolean readFrom(Tape tape) {
            forgetAll();
            tape.startReading(MOST_BYTES);
            for (int i = 0; i < Tape.MOST && tape.kind != Tape.END; i++) {
                if (!readLine(tape)) {
                    return false;
                }
                lines++;
            }
            return true;
        }

        private boolean readLine(Tape tape) {
            if (tape.kind != Tape.KEYWORD || tape.value > WORD_EXPRESS) {
                return tape.fail(FAULT_TOKEN);
            }
            boolean good = tape.value <= DRUM ? readThing(tape, tape.value) : readSetting(tape, tape.value - WORD_LOADS);
            if (!good) {
                return false;
            }
            if (!tape.isSign(';')) {
                return tape.fail(FAULT_TOKEN);
            }
            tape.advance();
            return true;
        }

        private boolean readSetting(Tape tape, int setting) {
            if (!within(setting, 0, EXPRESS)) {
                return tape.fail(FAULT_TOKEN);
            }
            if ((settingsTold >> setting & 1) != 0) {
                return tape.fail(FAULT_NAME);
            }
            settingsTold |= 1 << setting;
            tape.advance();
            int number = tape.takeNumber(LEAST_SETTING[setting], MOST_SETTING[setting]);
            settings[setting] = number;
            return number != NONE;
        }

        private boolean readThing(Tape tape, int sort) {
            if (!within(sort, SPOT, DRUM)) {
                return tape.fail(FAULT_TOKEN);
            }
            int number = told[sort];
            if (number >= MOST_OF_SORT[sort]) {
                return tape.fail(FAULT_MANY);
            }
            tape.advance();
            if (tape.kind != Tape.NAME) {
                return tape.fail(FAULT_TOKEN);
            }
            if (isTold(tape.name)) {
                return tape.fail(FAULT_NAME);
            }
            names[sort * NAMES_A_SORT + number] = tape.name;
            told[sort]++;
            tape.advance();
            switch (sort) {
                case AGENT:
                    return readAgent(tape, number);
                case CLOTH:
                    return readCloth(tape, number);
                case DRUM:
                    return readDrum(tape, number);
                default:
                    return true;
            }
        }

        private boolean readAgent(Tape tape, int agent) {
            agentCost[agent] = tape.takeNumber(0, 99);
            if (agentCost[agent] == NONE) {
                return false;
            }
            int used = 0;
            for (int i = 0; i <= MOST_SPOTS && !tape.isSign(';'); i++) {
                int spot = takeName(tape, SPOT, used);
                if (spot == NONE) {
                    return false;
                }
                used |= 1 << spot;
                int taken = tape.takeNumber(0, Spotter.PARTS);
                if (taken == NONE) {
                    return false;
                }
                chance[agent * MOST_SPOTS + spot] = taken;
            }
            return true;
        }

        private boolean readCloth(Tape tape, int cloth) {
            clothHeat[cloth] = tape.takeNumber(0, 9);
            if (clothHeat[cloth] == NONE) {
                return false;
            }
            clothPrice[cloth] = tape.takeNumber(0, 999);
            if (clothPrice[cloth] == NONE) {
                return false;
            }
            if (tape.isWord(WORD_BLEEDS)) {
                clothBleeds[cloth] = 1;
                tape.advance();
            }
            for (int i = 0; i <= MOST_AGENTS && tape.isWord(WORD_NOT); i++) {
                tape.advance();
                int agent = takeName(tape, AGENT, clothBans[cloth]);
                if (agent == NONE) {
                    return false;
                }
                clothBans[cloth] |= 1 << agent;
            }
            return true;
        }

        private boolean readDrum(Tape tape, int drum) {
            drumKilos[drum] = tape.takeNumber(1, 99);
            if (drumKilos[drum] == NONE) {
                return false;
            }
            drumHeat[drum] = tape.takeNumber(0, 9);
            return drumHeat[drum] != NONE;
        }

        /** The number of the NAME that stands, one of a sort and not among the used ones; NONE behind a FAULT. */
        private int takeName(Tape tape, int sort, int used) {
            if (tape.kind != Tape.NAME) {
                tape.fail(FAULT_TOKEN);
                return NONE;
            }
            int number = numberOf(sort, tape.name);
            if (number == NONE || (used >> number & 1) != 0) {
                tape.fail(FAULT_NAME);
                return NONE;
            }
            tape.advance();
            return number;
        }

        private boolean isTold(long name) {
            return numberOf(SPOT, name) != NONE || numberOf(AGENT, name) != NONE
                    || numberOf(CLOTH, name) != NONE || numberOf(DRUM, name) != NONE;
        }

        int numberOf(int sort, long name) {
            for (int i = 0; i < told[sort]; i++) {
                if (names[sort * NAMES_A_SORT + i] == name) {
                    return i;
                }
            }
            return NONE;
        }

        private boolean isCloth(int cloth) {
            return within(cloth, 0, told[CLOTH] - 1);
        }

        int costOf(int cloth, boolean express) {
            int price = isCloth(cloth) ? clothPrice[cloth] : 0;
            return express ? price * settings[EXPRESS] / 100 : price;
        }

        int heatOfCloth(int cloth) {
            return isCloth(cloth) ? clothHeat[cloth] : 0;
        }

        boolean bleeds(int cloth) {
            return isCloth(cloth) && clothBleeds[cloth] != 0;
        }

        /** The AGENTS that may be used on a CLOTH, as bits. */
        int usableOn(int cloth) {
            int all = (1 << told[AGENT]) - 1;
            return isCloth(cloth) ? all & ~clothBans[cloth] : 0;
        }

        /** NONE, which no HEAT is below, for a drum that there is not. */
        int heatOfDrum(int drum) {
            return within(drum, 0, told[DRUM] - 1) ? drumHeat[drum] : NONE;
        }

        boolean hasDrumFor(int weight, int leastHeat) {
            for (int d = 0; d < told[DRUM]; d++) {
                if (drumHeat[d] <= leastHeat && weight <= 10 * drumKilos[d]) {
                    return true;
                }
            }
            return false;
        }
    }

    /** A RULE, kept as steps on a stack of truths: each ONE's own step comes behind those of its parts. */
    private static final class Rule {
        static final int MOST_BYTES = 200;
        private static final int MOST_ONES = 20;
        private static final int MOST_WITHIN = 8;
        // each ONE has one step at most, and each 'and', 'or' joins two of them
        private static final int MOST_STEPS = 2 * MOST_ONES;

        private final int[] step = new int[MOST_STEPS];
        private final int[] sign = new int[MOST_STEPS];
        private final int[] number = new int[MOST_STEPS];
        private int steps = 0;
        private int ones = 0;

        void forget() {
            steps = 0;
            ones = 0;
        }

        void copyFrom(Rule other) {
            copyRow(other.step, step);
            copyRow(other.sign, sign);
            copyRow(other.number, number);
            steps = other.steps;
            ones = other.ones;
        }

        boolean readFrom(Tape tape, House house) {
            forget();
            tape.startReading(MOST_BYTES);
            if (!readCond(tape, house, 1)) {
                return false;
            }
            return tape.kind == Tape.END || tape.fail(FAULT_TOKEN);
        }

        private boolean readCond(Tape tape, House house, int depth) {
            if (!readAll(tape, house, depth)) {
                return false;
            }
            for (int i = 0; i < MOST_ONES && tape.isWord(WORD_OR); i++) {
                tape.advance();
                if (!readAll(tape, house, depth)) {
                    return false;
                }
                addStep(WORD_OR, 0, 0);
            }
            return true;
        }

        private boolean readAll(Tape tape, House house, int depth) {
            if (!readOne(tape, house, depth)) {
                return false;
            }
            for (int i = 0; i < MOST_ONES && tape.isWord(WORD_AND); i++) {
                tape.advance();
                if (!readOne(tape, house, depth)) {
                    return false;
                }
                addStep(WORD_AND, 0, 0);
            }
            return true;
        }

        private boolean readOne(Tape tape, House house, int depth) {
            boolean isBracket = tape.isSign('(');
            if (!isBracket && (tape.kind != Tape.KEYWORD || !within(tape.value, WORD_NO, WORD_LOADED))) {
                return tape.fail(FAULT_TOKEN);
            }
            if (ones >= MOST_ONES || depth > MOST_WITHIN) {
                return tape.fail(FAULT_MANY);
            }
            ones++;
            int word = tape.value;
            tape.advance();
            if (isBracket) {
                return readBracket(tape, house, depth);
            }
            switch (word) {
                case WORD_NO:
                    if (!readOne(tape, house, depth + 1)) {
                        return false;
                    }
                    addStep(WORD_NO, 0, 0);
                    return true;
                case WORD_IS:
                    return readIs(tape, house);
                case WORD_STANDS:
                    return readStands(tape);
                case WORD_FAST:
                case WORD_CLAIMED:
                    addStep(word, 0, 0);
                    return true;
                default:
                    return readCompared(tape, word);
            }
        }

        private boolean readBracket(Tape tape, House house, int depth) {
            if (!readCond(tape, house, depth + 1)) {
                return false;
            }
            if (!tape.isSign(')')) {
                return tape.fail(FAULT_TOKEN);
            }
            tape.advance();
            return true;
        }

        private boolean readIs(Tape tape, House house) {
            if (tape.kind != Tape.NAME) {
                return tape.fail(FAULT_TOKEN);
            }
            int cloth = house.numberOf(CLOTH, tape.name);
            if (cloth == NONE) {
                return tape.fail(FAULT_NAME);
            }
            addStep(WORD_IS, 0, cloth);
            tape.advance();
            return true;
        }

        private boolean readCompared(Tape tape, int word) {
            if (!tape.isSign('<') && !tape.isSign('=') && !tape.isSign('>')) {
                return tape.fail(FAULT_TOKEN);
            }
            int how = tape.value;
            tape.advance();
            int compared = tape.takeNumber(0, 999);
            addStep(word, how, compared);
            return compared != NONE;
        }

        private boolean readStands(Tape tape) {
            int standing = tape.takeNumber(0, SOLD);
            addStep(WORD_STANDS, 0, standing);
            return standing != NONE;
        }

        private void addStep(int word, int how, int compared) {
            if (steps < MOST_STEPS) {
                step[steps] = word;
                sign[steps] = how;
                number[steps] = compared;
                steps++;
            }
        }

        boolean holdsFor(Tickets tickets, int t, int today) {
            // the stack of truths is the bits of one number, the top one lowest: 20 at most
            int stack = 0;
            for (int i = 0; i < steps; i++) {
                int top = stack & 1;
                switch (step[i]) {
                    case WORD_OR:
                        stack = stack >> 1 | top;
                        break;
                    case WORD_AND:
                        stack = stack >> 1 & (~1 | top);
                        break;
                    case WORD_NO:
                        stack ^= 1;
                        break;
                    default:
                        stack = stack << 1 | (isTrue(i, tickets, t, today) ? 1 : 0);
                }
            }
            return (stack & 1) != 0;
        }

        private boolean isTrue(int i, Tickets tickets, int t, int today) {
            switch (step[i]) {
                case WORD_IS:
                    return tickets.of(t, Tickets.CLOTH_OF) == number[i];
                case WORD_STANDS:
                    return tickets.of(t, Tickets.AT) == number[i];
                case WORD_FAST:
                    return tickets.of(t, Tickets.EXPRESS) != 0;
                case WORD_CLAIMED:
                    return tickets.of(t, Tickets.CLAIMED) != 0;
                default:
                    int is = measure(step[i], tickets, t, today);
                    return sign[i] == '<' ? is < number[i] : sign[i] == '>' ? is > number[i] : is == number[i];
            }
        }

        private static int measure(int word, Tickets tickets, int t, int today) {
            switch (word) {
                case WORD_AGE:
                    return today - tickets.of(t, Tickets.TAKEN);
                case WORD_LATE:
                    return today - tickets.of(t, Tickets.DUE);
                case WORD_PRICE:
                    return tickets.of(t, Tickets.COST);
                case WORD_WEIGHT:
                    return tickets.of(t, Tickets.WEIGHT);
                case WORD_SIZE:
                    return tickets.of(t, Tickets.SIZE);
                case WORD_COUNTER:
                    return tickets.of(t, Tickets.COUNTER);
                case WORD_LOAD:
                    return tickets.of(t, Tickets.LOAD);
                default:
                    return tickets.withLoad(tickets.of(t, Tickets.LOAD));
            }
        }
    }

    /** The TICKETS, what was told of them, and which are claimed. */
    private static final class Tickets {
        static final int MOST = 40;
        static final int MOST_NEWS = 240;
        static final int MOST_CLAIMS = 12;

        /** What is kept of each; 0 to 9 as about() numbers them. */
        static final int CLOTH_OF = 0;
        static final int SHADE = 1;
        static final int WEIGHT = 2;
        static final int SIZE = 3;
        static final int MARKS = 4;
        static final int COUNTER = 5;
        static final int TAKEN = 6;
        static final int DUE = 7;
        static final int COST = 8;
        static final int LOAD = 9;
        static final int EXPRESS = 10;
        static final int CLAIMED = 11;
        /** How it STANDS TODAY as known TODAY, and the DAY of those NEWS: kept, since it is asked so often. */
        static final int AT = 12;
        static final int AT_DAY = 13;
        private static final int CELLS = 14;

        private final int[] cells = new int[MOST * CELLS];
        private final int[] newsOf = new int[MOST_NEWS];
        private final int[] newsWhat = new int[MOST_NEWS];
        private final int[] newsDay = new int[MOST_NEWS];
        private final int[] newsTold = new int[MOST_NEWS];
        private int size = 0;
        private int newsSize = 0;
        private int claims = 0;

        void forgetAll() {
            size = 0;
            newsSize = 0;
            claims = 0;
        }

        void copyFrom(Tickets other) {
            copyRow(other.cells, cells);
            copyRow(other.newsOf, newsOf);
            copyRow(other.newsWhat, newsWhat);
            copyRow(other.newsDay, newsDay);
            copyRow(other.newsTold, newsTold);
            size = other.size;
            newsSize = other.newsSize;
            claims = other.claims;
        }

        int of(int t, int what) {
            return within(t, 0, size - 1) && within(what, 0, CELLS - 1) ? cells[t * CELLS + what] : 0;
        }

        void set(int t, int what, int value) {
            if (within(t, 0, size - 1) && within(what, 0, CELLS - 1)) {
                cells[t * CELLS + what] = value;
            }
        }

        int addEmpty() {
            if (size >= MOST) {
                return NONE;
            }
            size++;
            for (int what = 0; what < CELLS; what++) {
                set(size - 1, what, 0);
            }
            return size - 1;
        }

        int addNews(int t, int what, int day, int told) {
            if (newsSize >= MOST_NEWS) {
                return NONE;
            }
            newsOf[newsSize] = t;
            newsWhat[newsSize] = what;
            newsDay[newsSize] = day;
            newsTold[newsSize] = told;
            newsSize++;
            // no NEWS are of a DAY behind TODAY, so that of the latest DAY is how it STANDS TODAY
            if (day >= of(t, AT_DAY)) {
                set(t, AT, what);
                set(t, AT_DAY, day);
            }
            return newsSize - 1;
        }

        int standing(int t, int day, int by) {
            int what = 0;
            int latest = 0;
            for (int n = 0; n < newsSize; n++) {
                if (newsOf[n] == t && newsTold[n] <= by && within(newsDay[n], latest, day)) {
                    what = newsWhat[n];
                    latest = newsDay[n];
                }
            }
            return what;
        }

        boolean isOpen(int t) {
            return of(t, AT) < FETCHED;
        }

        boolean isCleaned(int t) {
            return within(of(t, AT), DONE, FETCHED);
        }

        boolean wasDoneTwice(int t) {
            int day = NONE;
            for (int n = 0; n < newsSize; n++) {
                if (newsOf[n] == t && newsWhat[n] == DONE) {
                    if (day != NONE && newsDay[n] != day) {
                        return true;
                    }
                    day = newsDay[n];
                }
            }
            return false;
        }

        /** How many DAYS it took to the counter, or takes till TODAY; 0, if it will not come there. */
        int daysToCounter(int t, int today) {
            int first = NONE;
            for (int n = 0; n < newsSize; n++) {
                if (newsOf[n] == t && newsWhat[n] == AT_COUNTER && (first == NONE || newsDay[n] < first)) {
                    first = newsDay[n];
                }
            }
            if (first == NONE) {
                return isOpen(t) ? today - of(t, TAKEN) : 0;
            }
            return first - of(t, TAKEN);
        }

        int withLoad(int load) {
            int many = 0;
            for (int t = 0; t < size && load != 0; t++) {
                many += of(t, LOAD) == load ? 1 : 0;
            }
            return many;
        }
    }

    /** The BOOK of SOLVENT, and what is told of LOADS and COUNTERS. */
    private static final class Ledger {
        private static final int MOST_DAYS = 200;
        private static final int WEEK = 7;

        private final int[] bought = new int[MOST_DAYS];
        private final int[] kilos = new int[MOST_DAYS];
        private final int[] left = new int[MOST_DAYS];
        private final int[] drumOfLoad = new int[MOST_LOAD + 1];
        private final int[] contractDays = new int[COUNTERS];
        private final int[] contractPence = new int[COUNTERS];
        private final int[] placeX = new int[COUNTERS];
        private final int[] placeY = new int[COUNTERS];
        private int bookDays = 0;

        Ledger() {
            forgetAllButPlaces();
        }

        void forgetAllButPlaces() {
            Arrays.fill(drumOfLoad, NONE);
            Arrays.fill(contractDays, NONE);
            bookDays = 0;
        }

        void copyFrom(Ledger other) {
            copyRow(other.bought, bought);
            copyRow(other.kilos, kilos);
            copyRow(other.left, left);
            copyRow(other.drumOfLoad, drumOfLoad);
            copyRow(other.contractDays, contractDays);
            copyRow(other.contractPence, contractPence);
            copyRow(other.placeX, placeX);
            copyRow(other.placeY, placeY);
            bookDays = other.bookDays;
        }

        int drumOf(int load) {
            return within(load, 1, MOST_LOAD) ? drumOfLoad[load] : NONE;
        }

        int addBookDay(int boughtNow, int kilosNow, int leftNow) {
            if (bookDays >= MOST_DAYS) {
                return NONE;
            }
            bought[bookDays] = boughtNow;
            kilos[bookDays] = kilosNow;
            left[bookDays] = leftNow;
            bookDays++;
            return bookDays - 1;
        }

        int lostOn(int d) {
            if (!within(d, 0, bookDays - 1)) {
                return 0;
            }
            return (d == 0 ? 0 : left[d - 1]) + bought[d] - left[d];
        }

        int firstBroken(int lose) {
            int lostSum = 0;
            int kiloSum = 0;
            for (int d = 0; d < bookDays; d++) {
                lostSum += lostOn(d);
                kiloSum += kilos[d];
                if (d >= WEEK) {
                    lostSum -= lostOn(d - WEEK);
                    kiloSum -= kilos[d - WEEK];
                }
                if (lostSum > lose * kiloSum) {
                    return d;
                }
            }
            return NONE;
        }
    }

    /** All that an image keeps. */
    private static final class Works {
        private final Tickets tickets = new Tickets();
        private final Ledger ledger = new Ledger();
        private House house = new House();
        private Rule rule = new Rule();
        private int today = 0;

        void copyFrom(Works other) {
            tickets.copyFrom(other.tickets);
            ledger.copyFrom(other.ledger);
            house.copyFrom(other.house);
            rule.copyFrom(other.rule);
            today = other.today;
        }
    }

    /** The fewest LOADS: coats stand by DUE, so the next LOAD always has the first coat that is left. */
    private static final class Planner {
        private static final int SETS = 1 << MOST_PLANNED;
        private static final int NEVER = 99;

        private final int[] due = new int[MOST_PLANNED];
        private final int[] shade = new int[MOST_PLANNED];
        private final int[] weight = new int[MOST_PLANNED];
        private final int[] heat = new int[MOST_PLANNED];
        private final int[] setWeight = new int[SETS];
        private final int[] setHeat = new int[SETS];
        private final int[] setShades = new int[SETS];
        private final int[] setFits = new int[SETS];
        private final int[] fewest = new int[SETS];
        private int coats = 0;

        void forgetAll() {
            coats = 0;
        }

        void insert(int dueDay, int shadeOf, int weightOf, int heatOf) {
            if (coats >= MOST_PLANNED) {
                return;
            }
            int i = coats;
            while (i > 0 && due[i - 1] > dueDay) {
                due[i] = due[i - 1];
                shade[i] = shade[i - 1];
                weight[i] = weight[i - 1];
                heat[i] = heat[i - 1];
                i--;
            }
            due[i] = dueDay;
            shade[i] = shadeOf;
            weight[i] = weightOf;
            heat[i] = heatOf;
            coats++;
        }

        /** Of each set of coats, whether it can be one LOAD. */
        void findFits(House house) {
            setWeight[0] = 0;
            setHeat[0] = 9;
            setShades[0] = 0;
            for (int i = 0; i < coats; i++) {
                for (int rest = 0; rest < 1 << i; rest++) {
                    int set = rest | 1 << i;
                    setWeight[set] = setWeight[rest] + weight[i];
                    setHeat[set] = Math.min(setHeat[rest], heat[i]);
                    setShades[set] = setShades[rest] | 1 << shade[i];
                    boolean oneShade = setShades[set] == 1 << shade[i];
                    setFits[set] = oneShade && house.hasDrumFor(setWeight[set], setHeat[set]) ? 1 : 0;
                }
            }
        }

        int fewestFrom(int day, int loadsADay) {
            int all = (1 << coats) - 1;
            Arrays.fill(fewest, NEVER);
            fewest[0] = 0;
            for (int done = 0; done < all; done++) {
                int first = firstOutside(done);
                // LOADS done so far fill whole days from that day on
                if (fewest[done] < Math.min(NEVER, loadsADay * (due[first] - day + 1))) {
                    addLoads(done, first, all);
                }
            }
            return fewest[all] >= NEVER ? NONE : fewest[all];
        }

        private int firstOutside(int set) {
            int i = 0;
            while (i < coats - 1 && (set >> i & 1) != 0) {
                i++;
            }
            return i;
        }

        /** All LOADS that have the first coat that is left, with any others that are left. */
        private void addLoads(int done, int first, int all) {
            int loadsThen = fewest[done] + 1;
            int others = all & ~done & ~(1 << first);
            for (int some = others; some >= 0; some = some == 0 ? -1 : some - 1 & others) {
                int load = some | 1 << first;
                if (setFits[load] != 0 && loadsThen < fewest[done | load]) {
                    fewest[done | load] = loadsThen;
                }
            }
        }

        int latestStart(int today, int loadsADay) {
            if (!fitsEach()) {
                return NONE;
            }
            for (int day = due[0]; day >= today; day--) {
                if (fewestFrom(day, loadsADay) != NONE) {
                    return day;
                }
            }
            return NONE;
        }

        private boolean fitsEach() {
            for (int i = 0; i < coats; i++) {
                if (setFits[1 << i] == 0) {
                    return false;
                }
            }
            return true;
        }
    }

    /** FOUND coats and the TICKETS that FIT them. */
    private static final class Finder {
        static final int MOST = 8;

        private final int[] fitting = new int[Tickets.MOST];
        private final long[] ways = new long[1 << MOST];
        private final int[] ticketOf = new int[MOST];
        private final int[] coatOf = new int[Tickets.MOST];
        private final int[] sureTickets = new int[MOST];
        private long tried = 0;
        private int coats = 0;
        private int tickets = 0;
        private int settled = 0;

        void start(int manyCoats, int manyTickets) {
            coats = Math.min(manyCoats, MOST);
            tickets = Math.min(manyTickets, Tickets.MOST);
            Arrays.fill(fitting, 0);
        }

        void allow(int coat, int ticket) {
            if (within(coat, 0, coats - 1) && within(ticket, 0, tickets - 1)) {
                fitting[ticket] |= 1 << coat;
            }
        }

        /** TICKET by TICKET: in how many ways each set of coats is owned by those so far. */
        long countWays() {
            int all = (1 << coats) - 1;
            Arrays.fill(ways, 0);
            ways[0] = 1;
            for (int t = 0; t < tickets; t++) {
                // from the greatest set down, so that this TICKET is not counted twice
                for (int set = fitting[t] == 0 ? -1 : all; set >= 0; set--) {
                    for (int i = 0; i < coats && ways[set] != 0; i++) {
                        if ((fitting[t] & ~set & 1 << i) != 0) {
                            ways[set | 1 << i] += ways[set];
                        }
                    }
                }
            }
            return ways[all];
        }

        /** A coat is SURE, if it can't be another TICKET's when it is forbidden that of one way. */
        void settleSure() {
            Arrays.fill(coatOf, NONE);
            for (int i = 0; i < coats; i++) {
                tried = 0;
                findOwner(i, 0);
            }
            settled = coats;
            for (int i = 0; i < coats; i++) {
                int owner = ticketOf[i];
                sureTickets[i] = NONE;
                if (within(owner, 0, tickets - 1)) {
                    settleOne(i, owner);
                }
            }
        }

        private void settleOne(int coat, int owner) {
            fitting[owner] &= ~(1 << coat);
            coatOf[owner] = NONE;
            tried = 0;
            if (!findOwner(coat, 0)) {
                sureTickets[coat] = owner;
                coatOf[owner] = coat;
            }
            fitting[owner] |= 1 << coat;
        }

        /** A TICKET for a coat; others give theirs up for another one, if they can. */
        private boolean findOwner(int coat, int depth) {
            if (depth >= MOST || !within(coat, 0, coats - 1)) {
                return false;
            }
            for (int t = 0; t < tickets; t++) {
                if ((fitting[t] >> coat & 1) != 0 && (tried >> t & 1) == 0) {
                    tried |= 1L << t;
                    if (coatOf[t] == NONE || findOwner(coatOf[t], depth + 1)) {
                        coatOf[t] = coat;
                        ticketOf[coat] = t;
                        return true;
                    }
                }
            }
            return false;
        }
    }

    /** The order of AGENTS: what is left of a stain hangs on which ones were tried, not on their order. */
    private static final class Spotter {
        static final int PARTS = 20;
        private static final long WHOLE = 1280000000L;
        private static final int SETS = 1 << House.MOST_AGENTS;

        private final long[] failed = new long[SETS];
        private final long[] costFrom = new long[SETS];
        private final int[] order = new int[House.MOST_AGENTS];
        private int usable = 0;
        private int ordered = 0;

        /** The PARTS of 20^7 with which all AGENTS of each usable set fail. */
        void findFailures(House house, Tape tape, int usableAgents) {
            usable = usableAgents & SETS - 1;
            for (int set = 0; set <= usable; set++) {
                long sum = 0;
                for (int spot = 0; spot < house.told[SPOT]; spot++) {
                    long parts = tape.byteAt(spot);
                    for (int a = 0; a < House.MOST_AGENTS; a++) {
                        int out = (set >> a & 1) != 0 ? house.chance[a * House.MOST_SPOTS + spot] : 0;
                        parts *= PARTS - out;
                    }
                    sum += parts;
                }
                failed[set] = sum;
            }
        }

        long findOrder(House house) {
            costFrom[usable] = 0;
            for (int set = usable - 1; set >= 0; set--) {
                if ((set & ~usable) == 0) {
                    costFrom[set] = costWith(house, set, nextOf(house, set));
                }
            }
            ordered = 0;
            int tried = 0;
            for (int i = 0; i < House.MOST_AGENTS && tried != usable; i++) {
                order[i] = nextOf(house, tried);
                tried |= 1 << order[i];
                ordered++;
            }
            return costFrom[0];
        }

        /** The first AGENT with which it costs least from here on. */
        private int nextOf(House house, int set) {
            int next = NONE;
            for (int a = 0; a < House.MOST_AGENTS; a++) {
                boolean isLeft = (usable & ~set & 1 << a) != 0;
                if (isLeft && (next == NONE || costWith(house, set, a) < costWith(house, set, next))) {
                    next = a;
                }
            }
            return next;
        }

        private long costWith(House house, int set, int agent) {
            if (!within(agent, 0, House.MOST_AGENTS - 1)) {
                return 0;
            }
            return house.agentCost[agent] * failed[set] + costFrom[set | 1 << agent];
        }

        long mostOut(int k) {
            long most = 0;
            for (int set = 0; set <= usable; set++) {
                if ((set & ~usable) == 0 && Integer.bitCount(set) <= k) {
                    most = Math.max(most, WHOLE - failed[set]);
                }
            }
            return most;
        }
    }

    /** CLAIMS and the fewest POSSIBLE CAUSES that each has one of. */
    private static final class Blame {
        static final int FIRST_CLOTH = 100;
        static final int FIRST_COUNTER = 200;
        private static final int CAUSES = FIRST_COUNTER + COUNTERS;
        private static final int CAUSES_A_CLAIM = 3;

        private final int[] covered = new int[CAUSES];
        private final int[] causeOf = new int[Tickets.MOST_CLAIMS * CAUSES_A_CLAIM];
        private final int[] fewest = new int[1 << Tickets.MOST_CLAIMS];
        private final int[] chosen = new int[Tickets.MOST_CLAIMS];
        private int claims = 0;
        private int chosenCount = 0;

        void start() {
            Arrays.fill(covered, 0);
            claims = 0;
        }

        void beginClaim() {
            if (claims < Tickets.MOST_CLAIMS) {
                claims++;
            }
        }

        /** The which-th CAUSE of the claim that was begun last; 0, if that one is not POSSIBLE. */
        void addCause(int which, int cause) {
            if (claims == 0 || !within(which, 0, CAUSES_A_CLAIM - 1) || !within(cause, 0, CAUSES - 1)) {
                return;
            }
            causeOf[(claims - 1) * CAUSES_A_CLAIM + which] = cause;
            if (cause != 0) {
                covered[cause] |= 1 << claims - 1;
            }
        }

        int chooseFewest() {
            for (int c = 0; c < claims; c++) {
                int at = c * CAUSES_A_CLAIM;
                if (causeOf[at] == 0 && causeOf[at + 1] == 0 && causeOf[at + 2] == 0) {
                    return NONE;
                }
            }
            countFewest();
            int left = (1 << claims) - 1;
            chosenCount = 0;
            for (int cause = 1; cause < CAUSES && left != 0; cause++) {
                // the least CAUSE of a fewest set: none ahead of it was of one, so the rest come behind it
                int then = left & ~covered[cause];
                if (fewest[then] < fewest[left] && chosenCount < Tickets.MOST_CLAIMS) {
                    chosen[chosenCount] = cause;
                    chosenCount++;
                    left = then;
                }
            }
            return chosenCount;
        }

        /** Of each set of claims how many CAUSES it needs, by those of its last claim. */
        private void countFewest() {
            fewest[0] = 0;
            for (int c = 0; c < claims; c++) {
                for (int rest = 0; rest < 1 << c; rest++) {
                    int set = rest | 1 << c;
                    int least = claims;
                    for (int i = 0; i < CAUSES_A_CLAIM; i++) {
                        int cause = causeOf[c * CAUSES_A_CLAIM + i];
                        if (cause != 0) {
                            least = Math.min(least, fewest[set & ~covered[cause]] + 1);
                        }
                    }
                    fewest[set] = least;
                }
            }
        }
    }

    /** The VAN's ROUND. */
    private static final class Van {
        static final int MOST = 9;
        private static final int HOME = 50;

        private final int[] counter = new int[MOST];
        private final int[] x = new int[MOST];
        private final int[] y = new int[MOST];
        private final int[] order = new int[MOST];
        // the shortest way on to all others and home, by the set that was seen and where it stands
        private final int[] wayFrom = new int[MOST << MOST];
        private int stops = 0;

        void start() {
            stops = 0;
        }

        void addStop(int number, int atX, int atY) {
            if (stops < MOST) {
                counter[stops] = number;
                x[stops] = atX;
                y[stops] = atY;
                stops++;
            }
        }

        int findRound() {
            int all = (1 << stops) - 1;
            for (int set = all; set > 0; set--) {
                for (int at = 0; at < stops; at++) {
                    if ((set >> at & 1) != 0) {
                        wayFrom[set * MOST + at] = set == all ? toHome(at) : wayBy(set, at, nextOf(set, at));
                    }
                }
            }
            int length = wayBy(0, NONE, nextOf(0, NONE));
            int at = NONE;
            int set = 0;
            for (int i = 0; i < stops; i++) {
                at = nextOf(set, at);
                set |= at == NONE ? 0 : 1 << at;
                order[i] = at == NONE ? NONE : counter[at];
            }
            return length;
        }

        /** The first stop, as told, by which the rest is shortest. */
        private int nextOf(int set, int at) {
            int next = NONE;
            int least = 0;
            for (int i = 0; i < stops; i++) {
                if ((set >> i & 1) == 0) {
                    int way = wayBy(set, at, i);
                    if (next == NONE || way < least) {
                        next = i;
                        least = way;
                    }
                }
            }
            return next;
        }

        private int wayBy(int set, int at, int next) {
            if (!within(next, 0, stops - 1)) {
                return 0;
            }
            int leg = at == NONE ? toHome(next) : distance(x[at], y[at], x[next], y[next]);
            return leg + wayFrom[(set | 1 << next) * MOST + next];
        }

        private int toHome(int at) {
            return distance(x[at], y[at], HOME, HOME);
        }

        private static int distance(int ax, int ay, int bx, int by) {
            return Math.abs(ax - bx) + Math.abs(ay - by);
        }
    }
}
