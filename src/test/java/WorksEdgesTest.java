import java.util.Arrays;

/** The edges of TICKETS, NEWS, CONTRACTS, CLAIMS, the BOOK, the VAN, images: sentence by sentence. */
public final class WorksEdgesTest {
    private static final String HOUSE = "cloth c 5 100;cloth d 4 33 bleeds;drum p 9 5;drum q 3 4;sell 10;express 150;";

    public static void main(String[] args) {
        aNewObject();
        tapeOf940Bytes();
        firstBytesAlone();
        today199AtMost();
        ticketRanges();
        fortyTickets();
        costIsCut();
        aboutEach();
        newsRanges();
        newsOf240();
        standsUpToBothDays();
        likeNewsToldLast();
        openAndInWork();
        dueAheadOfToday();
        fetchedAsKnownToday();
        doneForTwoDays();
        contractRanges();
        daysBehindTheContract();
        whenItCameToTheCounter();
        aNewHouseEmpties();
        twelveClaims();
        claimsStandAtOneToThree();
        numbersOfCauses();
        allOfThemClaimed();
        loadNumbers();
        runsAsTold();
        hotterThanTheHeat();
        bookOf200Days();
        lostOnTheFirstDay();
        brokenOnSevenDays();
        placesAndCounters();
        roundsOfOneToNine();
        likeRounds();
        unfetchedToTheDay();
        meetsEachSign();
        imagesInTwoPlaces();
        theTapeStays();
        counts();
        Bench.finish("WorksEdgesTest");
    }

    private static int[] upTo(int n) {
        int[] row = new int[n];
        for (int i = 0; i < n; i++) {
            row[i] = i;
        }
        return row;
    }

    // ---- promise 1: "An empty HOUSE on DAY 0; an empty tape." ----

    private static void aNewObject() {
        CoatWorks x = new CoatWorks();
        for (int what = 0; what <= 9; what++) {
            Bench.due("count(" + what + ") of a new object", x.count(what), 0);
        }
        Bench.due("no cloth", x.ticket(0, 1, 0, 0, 0, 0), -1);
        Bench.due("no ticket to load", x.loaded(0, 1), false);
        Bench.due("no drum", x.drum(1, 0), false);
        Bench.due("no cloth to recall", x.recall(0, 0), -1);
        Bench.due("no rule", x.meets(-1), -1);
        Bench.due("no contract", x.owed(0), -1);
        Bench.due("no claim", x.claim(0), -1);
        Bench.due("no claim, no cause", x.causes(), 0);
        Bench.due("nothing twice", x.twice(-1), 0);
        Bench.due("nothing has run", x.run(-1), 0);
        Bench.due("nothing broken", x.broken(), -1);
        Bench.due("loads of nothing", x.loads(), -2);
        Bench.due("patience of nothing", x.patience(), -2);
        Bench.due("hurry of nothing", x.hurry(), -2);
        Bench.due("found nothing", x.found(), -1);
        Bench.due("best of nothing", x.best(0), -1);
        Bench.due("out of nothing", x.out(0, 0), -1);
        Bench.due("round of nothing", x.round(), -1);
        for (int what = 0; what <= 3; what++) {
            Bench.due("open(" + what + ")", x.open(what), 0);
        }
        Bench.due("unfetched(199, 0)", x.unfetched(199, 0), 0);
        Bench.due("unfetched(199, 1)", x.unfetched(199, 1), 0);
        Bench.due("unfetched(199, 2)", x.unfetched(199, 2), -1);
        for (int i = -1; i <= 12; i++) {
            Bench.due("sure(" + i + ") ahead of any", x.sure(i), -1);
            Bench.due("bestAt(" + i + ") ahead of any", x.bestAt(i), -1);
            Bench.due("recalled(" + i + ") ahead of any", x.recalled(i), -1);
            Bench.due("cause(" + i + ") of none", x.cause(i), -1);
            Bench.due("cause(" + i + ") ahead of any", new CoatWorks().cause(i), -1);
            Bench.due("roundAt(" + i + ") ahead of any", x.roundAt(i), -1);
        }
        Bench.due("rule of nothing", x.rule(), -1);
        Bench.due("its fault", x.fault(), 1);
        Bench.due("house of nothing", x.house(), 0);
        Bench.due("its fault", x.fault(), 0);
    }

    // ---- promise 2: "NONE, and none come, if it would have more than 940" ----

    private static void tapeOf940Bytes() {
        for (int had : new int[] {0, 1, 919, 920, 921, 939, 940}) {
            CoatWorks x = new CoatWorks();
            for (int i = 0; i < 47; i++) {
                x.feed(0, 0, 0, 0, 0);
            }
            x.end(had);
            Bench.due("feed behind " + had, x.feed(1, 2, 3, 4, 5), had <= 920 ? had + 20 : -1);
            Bench.due("bytes behind " + had, x.count(9), had <= 920 ? had + 20 : had);
        }
        // "of each number the highest first"
        CoatWorks x = new CoatWorks();
        for (int i = 0; i < 20; i++) {
            x.end(0);
            int[] five = new int[5];
            five[i / 4] = 39 << 24 - 8 * (i % 4);
            x.feed(five[0], five[1], five[2], five[3], five[4]);
            x.end(i + 1);
            boolean good = i < 2;
            Bench.due("the byte at " + i, x.round(), good ? 200 : -1);
            Bench.due("it is 39", x.roundAt(i), good ? 39 : -1);
        }
        x.feed(0x80ff0000, 0, 0, 0, 0);
        x.end(2);
        Bench.due("bytes above 127 are no counters", x.round(), -1);
    }

    // ---- promise 3: "The tape has its first n bytes alone: true; false, if it has not so many, or n is below 0" ----

    private static void firstBytesAlone() {
        CoatWorks x = new CoatWorks();
        Bench.due("end(0) of none", x.end(0), true);
        Bench.due("end(1) of none", x.end(1), false);
        x.feed(0x00010203, 0x04050607, 0x08090a0b, 0, 0);
        Bench.due("end(21) of 20", x.end(21), false);
        Bench.due("end(20) of 20", x.end(20), true);
        Bench.due("end(-1) of 20", x.end(-1), false);
        Bench.due("end(9) of 20", x.end(9), true);
        Bench.due("end(10) of 9", x.end(10), false);
        Bench.due("count(9)", x.count(9), 9);
        Bench.due("nine counters", x.round(), 200);
        for (int i = 0; i < 9; i++) {
            Bench.due("roundAt(" + i + ")", x.roundAt(i), i);
        }
        Bench.due("end(0) of an emptied tape", x.end(0), true);
        Bench.due("end(1) of an emptied tape", x.end(1), false);
    }

    // ---- "TODAY is DAY 0 at first, 199 at most"; promise 6 ----

    private static void today199AtMost() {
        Bench.due("later(0) at first", new CoatWorks().later(0), 0);
        Bench.due("later(198) at first", new CoatWorks().later(198), 198);
        Bench.due("later(199) at first", new CoatWorks().later(199), 199);
        Bench.due("later(200) at first", new CoatWorks().later(200), -1);
        Bench.due("later(-1) at first", new CoatWorks().later(-1), -1);
        CoatWorks x = new CoatWorks();
        x.later(100);
        Bench.due("later(-1) on 100", x.later(-1), -1);
        Bench.due("later(100) on 100", x.later(100), -1);
        Bench.due("today", x.count(6), 100);
        Bench.due("later(99) on 100", x.later(99), 199);
        Bench.due("later(1) on 199", x.later(1), -1);
        Bench.due("later(0) on 199", x.later(0), 199);
        Bench.due("later(greatest) on 199", x.later(Integer.MAX_VALUE), -1);
        Bench.due("today", x.count(6), 199);
    }

    // ---- "a SHADE (0 to 2), WEIGHT (1 to 200 ..), SIZE (0 to 9), MARKS (0 to 255), a COUNTER (0 to 39), .. DUE" ----

    private static void ticketRanges() {
        CoatWorks x = Bench.works(HOUSE);
        x.later(7);
        int[] good = {1, 50, 5, 100, 20, 50};
        int[][] ranges = {{0, 5}, {1, 200}, {0, 9}, {0, 255}, {0, 39}, {7, 199}};
        int[] aboutOf = {-1, 2, 3, 4, 5, 7};
        int had = 0;
        for (int i = 0; i < ranges.length; i++) {
            for (int side = 0; side < 2; side++) {
                int[] told = good.clone();
                told[i] = ranges[i][side];
                Bench.due("ticket" + Arrays.toString(told), ticket(x, told), had);
                if (aboutOf[i] >= 0) {
                    Bench.due("about " + aboutOf[i], x.about(had, aboutOf[i]), told[i]);
                }
                had++;
                told[i] += side == 0 ? -1 : 1;
                Bench.due("ticket" + Arrays.toString(told), ticket(x, told), -1);
                Bench.due("count(4)", x.count(4), had);
            }
        }
        // "with 100 more if express"
        int[][] kinds = {{100, had}, {105, had + 1}, {106, -1}, {99, -1}, {200, -1}, {-100, -1}};
        for (int[] kind : kinds) {
            Bench.due("kind " + kind[0], x.ticket(kind[0], 1, 1, 1, 1, 9), kind[1]);
        }
        Bench.due("cloth of 105", x.about(had + 1, 0), 1);
        Bench.due("shade of 105", x.about(had + 1, 1), 2);
        // eight CLOTHS
        CoatWorks y = Bench.works("cloth a 1 1;cloth b 1 1;cloth c 1 1;cloth d 1 1;cloth e 1 1;cloth f 1 1;cloth g 1 1;"
                + "cloth h 1 1;");
        Bench.due("kind 23", y.ticket(23, 1, 1, 1, 1, 1), 0);
        Bench.due("kind 24", y.ticket(24, 1, 1, 1, 1, 1), -1);
        Bench.due("kind 123", y.ticket(123, 1, 1, 1, 1, 1), 1);
        Bench.due("kind 124", y.ticket(124, 1, 1, 1, 1, 1), -1);
        // DUE on the last DAY
        y.later(199);
        Bench.due("due 198 on 199", y.ticket(0, 1, 1, 1, 1, 198), -1);
        Bench.due("due 199 on 199", y.ticket(0, 1, 1, 1, 1, 199), 2);
        Bench.due("due 200 on 199", y.ticket(0, 1, 1, 1, 1, 200), -1);
    }

    private static int ticket(CoatWorks x, int[] told) {
        return x.ticket(told[0], told[1], told[2], told[3], told[4], told[5]);
    }

    // ---- "A TICKET (40)" ----

    private static void fortyTickets() {
        CoatWorks x = Bench.works(HOUSE);
        for (int t = 0; t < 39; t++) {
            x.ticket(0, 1, 1, 1, t, 9);
        }
        Bench.due("the 40th", x.ticket(5, 200, 9, 255, 39, 199), 39);
        Bench.due("the 41st", x.ticket(0, 1, 1, 1, 1, 9), -1);
        Bench.due("about(39, 2)", x.about(39, 2), 200);
        Bench.dueNoSuch("about(40, 2)", () -> x.about(40, 2));
        Bench.due("news(39, ..)", x.news(39, 1, 0), 0);
        Bench.due("news(40, ..)", x.news(40, 1, 0), -1);
        Bench.due("loaded(39, ..)", x.loaded(39, 1), true);
        Bench.due("loaded(40, ..)", x.loaded(40, 1), false);
        Bench.due("claim(39)", x.claim(39), 1);
        Bench.due("claim(40)", x.claim(40), -1);
        Bench.due("twice(39)", x.twice(39), 0);
        Bench.due("twice(40)", x.twice(40), -2);
        Bench.due("stands(39, ..)", x.stands(39, 0, 0), 1);
        Bench.due("stands(40, ..)", x.stands(40, 0, 0), -1);
        Bench.due("the pin 38", Bench.found(x, 0, 0, 1, 1, 3, 8), 1);
        Bench.due("it is 38", x.sure(0), 38);
        Bench.due("the pin 39", Bench.found(x, 1, 2, 9, 255, 3, 9), 1);
        Bench.due("it is 39", x.sure(0), 39);
        Bench.due("loads of 38", Bench.loads(x, 38), 1);
        Bench.due("loads of 40", Bench.loads(x, 40), -2);
    }

    // ---- "it costs the CLOTH's PRICE, times 'express' by 100, cut, if it is" ----

    private static void costIsCut() {
        CoatWorks x = Bench.works(HOUSE);
        x.ticket(103, 1, 1, 1, 1, 1);
        x.ticket(3, 1, 1, 1, 1, 1);
        x.ticket(100, 1, 1, 1, 1, 1);
        Bench.due("33 times 150 by 100", x.about(0, 8), 49);
        Bench.due("33", x.about(1, 8), 33);
        Bench.due("100 times 150 by 100", x.about(2, 8), 150);
    }

    // ---- promise 8: "NoSuchElementException: no such ones" ----

    private static void aboutEach() {
        CoatWorks x = Bench.works(HOUSE);
        Bench.dueNoSuch("about(0, 0) of none", () -> x.about(0, 0));
        x.later(3);
        x.ticket(104, 5, 6, 7, 8, 9);
        x.loaded(0, 10);
        int[] want = {1, 1, 5, 6, 7, 8, 3, 9, 49, 10};
        for (int what = 0; what < 10; what++) {
            Bench.due("about(0, " + what + ")", x.about(0, what), want[what]);
        }
        for (int what : new int[] {-1, 10, Integer.MIN_VALUE, Integer.MAX_VALUE}) {
            Bench.dueNoSuch("about(0, " + what + ")", () -> x.about(0, what));
        }
        for (int t : new int[] {-1, 1, Integer.MIN_VALUE, Integer.MAX_VALUE}) {
            Bench.dueNoSuch("about(" + t + ", 9)", () -> x.about(t, 9));
        }
    }

    // ---- "NEWS of a TICKET: 1 done, .. 5 sold, on a DAY from that on which it was taken to TODAY" ----

    private static void newsRanges() {
        CoatWorks x = Bench.works(HOUSE);
        x.later(4);
        x.ticket(0, 1, 1, 1, 1, 9);
        x.later(3);
        Bench.due("news 0", x.news(0, 0, 5), -1);
        Bench.due("news 1", x.news(0, 1, 5), 0);
        Bench.due("news 5", x.news(0, 5, 5), 1);
        Bench.due("news 6", x.news(0, 6, 5), -1);
        Bench.due("on 3", x.news(0, 1, 3), -1);
        Bench.due("on 4", x.news(0, 1, 4), 2);
        Bench.due("on 7", x.news(0, 1, 7), 3);
        Bench.due("on 8", x.news(0, 1, 8), -1);
        Bench.due("of -1", x.news(-1, 1, 5), -1);
        Bench.due("of 1", x.news(1, 1, 5), -1);
        Bench.due("count(5)", x.count(5), 4);
        x.ticket(0, 1, 1, 1, 1, 9);
        Bench.due("of one that is taken today, on 6", x.news(1, 1, 6), -1);
        Bench.due("of one that is taken today, today", x.news(1, 1, 7), 4);
    }

    // ---- "NEWS of a TICKET (240)" ----

    private static void newsOf240() {
        CoatWorks x = Bench.works(HOUSE);
        x.ticket(0, 1, 1, 1, 1, 9);
        x.ticket(0, 1, 1, 1, 1, 9);
        for (int i = 0; i < 239; i++) {
            x.news(0, 1, 0);
        }
        Bench.due("the 240th", x.news(1, 4, 0), 239);
        Bench.due("the 241st", x.news(0, 3, 0), -1);
        Bench.due("the 241st of another", x.news(1, 3, 0), -1);
        Bench.due("stands(0)", x.stands(0, 0, 0), 1);
        Bench.due("stands(1)", x.stands(1, 0, 0), 4);
        Bench.due("open(0)", x.open(0), 1);
        Bench.due("count(5)", x.count(5), 240);
    }

    // ---- "of NEWS told by that DAY, of DAYS up to the first one"; promise 10 "(0 to 199 both)" ----

    private static void standsUpToBothDays() {
        CoatWorks x = Bench.works(HOUSE);
        x.later(2);
        x.ticket(0, 1, 1, 1, 1, 9);
        x.later(8);
        x.news(0, 1, 5);
        int[][] asked = {
            {2, 2, 0}, {1, 2, -1}, {2, 1, -1}, {4, 10, 0}, {5, 10, 1}, {5, 9, 0}, {10, 9, 0}, {10, 10, 1}, {199, 199, 1},
            {199, 9, 0}, {4, 199, 0}, {200, 199, -1}, {199, 200, -1}, {-1, 5, -1}, {5, -1, -1},
        };
        for (int[] a : asked) {
            Bench.due("stands(0, " + a[0] + ", " + a[1] + ")", x.stands(0, a[0], a[1]), a[2]);
        }
        CoatWorks y = Bench.works(HOUSE);
        y.ticket(0, 1, 1, 1, 1, 9);
        Bench.due("stands(0, 0, 0)", y.stands(0, 0, 0), 0);
        Bench.due("stands(0, -1, 0)", y.stands(0, -1, 0), -1);
        Bench.due("stands(0, 0, -1)", y.stands(0, 0, -1), -1);
        y.news(0, 2, 0);
        Bench.due("stands(0, 0, 0) with news", y.stands(0, 0, 0), 2);
    }

    // ---- "the one of the latest DAY (of like ones that told last); 0 without one" ----

    private static void likeNewsToldLast() {
        CoatWorks x = Bench.works(HOUSE);
        x.ticket(0, 1, 1, 1, 1, 9);
        x.later(5);
        Bench.due("without", x.stands(0, 5, 5), 0);
        x.news(0, 3, 5);
        x.news(0, 1, 4);
        Bench.due("the latest day, told first", x.stands(0, 5, 5), 3);
        Bench.due("open", x.open(0), 0);
        x.news(0, 2, 5);
        Bench.due("of like days told last", x.stands(0, 5, 5), 2);
        Bench.due("open again", x.open(0), 1);
        x.later(1);
        x.news(0, 4, 5);
        Bench.due("told on 6 of 5", x.stands(0, 5, 6), 4);
        Bench.due("as known on 5", x.stands(0, 5, 5), 2);
    }

    // ---- "OPEN, if .. it STANDS TODAY at none of 3, 4, 5. In WORK: at 0."; promise 11 ----

    private static void openAndInWork() {
        CoatWorks x = Bench.works(HOUSE);
        for (int t = 0; t < 6; t++) {
            x.ticket(0, 1, 1, 1, t, 9);
            x.news(t, t, 0);
            CoatWorks y = Bench.works(HOUSE);
            y.ticket(0, 1, 1, 1, 1, 9);
            y.news(0, t, 0);
            Bench.due("open(0) at " + t, y.open(0), t <= 2 ? 1 : 0);
            Bench.due("open(1) at " + t, y.open(1), t == 0 ? 1 : 0);
            Bench.due("open(3) at " + t, y.open(3), t == 3 ? 100 : 0);
            Bench.due("loads at " + t, Bench.loads(y, 0), t == 0 ? 1 : -2);
            Bench.due("patience at " + t, Bench.patience(y, 0), t == 0 ? 9 : -2);
            Bench.due("hurry at " + t, Bench.hurry(y, 0), t == 0 ? 1 : -2);
            Bench.due("found at " + t, Bench.found(y, 0, 0, 1, 1, 10, 10), t <= 2 ? 1 : 0);
        }
        Bench.due("open(0)", x.open(0), 3);
        Bench.due("open(1)", x.open(1), 1);
        Bench.due("open(-1)", x.open(-1), -1);
        Bench.due("open(4)", x.open(4), -1);
    }

    // ---- "in WORK and DUE ahead of TODAY (2)" ----

    private static void dueAheadOfToday() {
        CoatWorks x = Bench.works(HOUSE);
        x.ticket(0, 1, 1, 1, 1, 4);
        x.ticket(0, 1, 1, 1, 1, 5);
        x.ticket(0, 1, 1, 1, 1, 4);
        x.news(2, 1, 0);
        x.later(4);
        Bench.due("open(2) on 4", x.open(2), 0);
        x.later(1);
        Bench.due("open(2) on 5", x.open(2), 1);
        x.later(1);
        Bench.due("open(2) on 6", x.open(2), 2);
        x.news(0, 2, 6);
        Bench.due("open(2) when one is at the counter", x.open(2), 1);
    }

    // ---- "what all that were fetched (as known TODAY) cost together (3)" ----

    private static void fetchedAsKnownToday() {
        CoatWorks x = Bench.works(HOUSE);
        x.ticket(0, 1, 1, 1, 1, 4);
        x.ticket(103, 1, 1, 1, 1, 4);
        x.later(2);
        x.news(0, 3, 1);
        x.news(1, 3, 2);
        Bench.due("both", x.open(3), 149);
        x.news(0, 2, 2);
        Bench.due("one that came back", x.open(3), 49);
        Bench.house(x, HOUSE);
        for (int t = 0; t < 40; t++) {
            x.ticket(100, 1, 1, 1, 1, 9);
            x.news(t, 3, 2);
        }
        Bench.due("forty", x.open(3), 6000);
    }

    // ---- "TWICE: NEWS that it was done are told for two DAYS or more"; promise 19 ----

    private static void doneForTwoDays() {
        CoatWorks x = Bench.works(HOUSE);
        x.ticket(0, 1, 1, 1, 1, 9);
        x.ticket(0, 1, 1, 1, 1, 9);
        x.later(3);
        Bench.due("without news", x.twice(0), 0);
        x.news(0, 1, 1);
        Bench.due("one day", x.twice(0), 0);
        x.news(0, 1, 1);
        Bench.due("one day, told twice", x.twice(0), 0);
        x.news(0, 2, 2);
        Bench.due("another day, but not done", x.twice(0), 0);
        x.news(1, 1, 2);
        Bench.due("another day, but another ticket", x.twice(0), 0);
        Bench.due("none is", x.twice(-1), 0);
        x.news(0, 1, 0);
        Bench.due("two days", x.twice(0), 1);
        Bench.due("not the other", x.twice(1), 0);
        Bench.due("one is", x.twice(-1), 1);
        x.news(0, 1, 3);
        x.news(0, 5, 3);
        Bench.due("three days, and sold", x.twice(0), 1);
        Bench.due("twice(2)", x.twice(2), -2);
        Bench.due("twice(-2)", x.twice(-2), -2);
    }

    // ---- "A CONTRACT of a COUNTER: DAYS (0 to 30) and PENCE (0 to 999)"; promises 20, 21 ----

    private static void contractRanges() {
        CoatWorks x = new CoatWorks();
        int[][] good = {{0, 0, 0}, {39, 30, 999}, {20, 0, 999}, {20, 30, 0}};
        int[][] wrong = {{-1, 0, 0}, {40, 0, 0}, {5, -1, 0}, {5, 31, 0}, {5, 0, -1}, {5, 0, 1000}};
        for (int[] c : good) {
            Bench.due("contract" + Arrays.toString(c), x.contract(c[0], c[1], c[2]), true);
            Bench.due("owed(" + c[0] + ")", x.owed(c[0]), 0);
        }
        for (int[] c : wrong) {
            Bench.due("contract" + Arrays.toString(c), x.contract(c[0], c[1], c[2]), false);
        }
        for (int counter : new int[] {-1, 1, 5, 38, 40}) {
            Bench.due("owed(" + counter + ") without one", x.owed(counter), -1);
        }
    }

    // ---- "PENCE for each DAY by which it came to the counter later than so many DAYS behind that .. it was taken" ----

    private static void daysBehindTheContract() {
        for (int days : new int[] {0, 1, 30}) {
            CoatWorks x = Bench.works(HOUSE);
            x.later(2);
            x.ticket(0, 1, 1, 1, 39, 199);
            x.contract(39, days, 999);
            x.later(days);
            Bench.due("owed " + days + " days behind", x.owed(39), 0);
            x.later(1);
            Bench.due("owed a day later", x.owed(39), 999);
            x.later(1);
            Bench.due("owed two days later", x.owed(39), 1998);
            x.news(0, 2, 2 + days);
            Bench.due("at the counter just in time", x.owed(39), 0);
            x.contract(39, 0, 1);
            Bench.due("by another contract", x.owed(39), days);
        }
        CoatWorks most = Bench.works(HOUSE);
        for (int t = 0; t < 40; t++) {
            most.ticket(0, 1, 1, 1, 7, 199);
        }
        most.contract(7, 0, 999);
        most.later(199);
        Bench.due("the most that can be owed", most.owed(7), 40 * 199 * 999);
        most.contract(7, 0, 0);
        Bench.due("of no pence", most.owed(7), 0);
    }

    // ---- "(as known TODAY the first DAY of NEWS 2; TODAY, if there are none and it is OPEN; else none)" ----

    private static void whenItCameToTheCounter() {
        for (int what = 1; what <= 5; what++) {
            CoatWorks x = Bench.works(HOUSE);
            x.ticket(0, 1, 1, 1, 3, 199);
            x.contract(3, 1, 10);
            x.later(6);
            x.news(0, what, 4);
            int want = what == 2 ? 30 : what <= 2 ? 50 : 0;
            Bench.due("owed with news " + what + " of 4", x.owed(3), want);
            x.news(0, 2, 6);
            Bench.due("and news 2 of 6", x.owed(3), what == 2 ? 30 : 50);
            x.news(0, 2, 5);
            Bench.due("and news 2 of 5", x.owed(3), what == 2 ? 30 : 40);
            x.news(0, 3, 6);
            Bench.due("and fetched", x.owed(3), what == 2 ? 30 : 40);
        }
    }

    // ---- "A new HOUSE empties all TICKETS, .. ; TODAY and where COUNTERS are stay." ----

    private static void aNewHouseEmpties() {
        for (String text : new String[] {HOUSE, "", "spot a;"}) {
            CoatWorks x = Watch.richWorks();
            x.end(0);
            Bench.due("house '" + text + "'", Bench.house(x, text) >= 0, true);
            for (int what : new int[] {4, 5, 7, 8, 9}) {
                Bench.due("count(" + what + ")", x.count(what), 0);
            }
            Bench.due("today stays", x.count(6), 7);
            Bench.due("the rule", x.meets(-1), -1);
            Bench.due("the contract", x.owed(1), -1);
            Bench.due("where counter 3 is stays", Bench.round(x, 3), 60);
            Bench.due("images stay", x.restore(0), true);
            Bench.due("with their tickets", x.count(4), 4);
        }
        CoatWorks x = Watch.richWorks();
        x.end(0);
        Bench.house(x, "cloth c 5 100 bleeds;drum p 9 7;");
        x.ticket(2, 1, 1, 1, 1, 9);
        x.ticket(0, 1, 1, 1, 1, 9);
        Bench.due("no load of ticket 0", x.about(0, 9), 0);
        Bench.due("no load in common", x.run(-1), 0);
        x.loaded(0, 9);
        Bench.due("no drum of load 9", x.recall(0, 0), 0);
        x.news(0, 1, 7);
        Bench.due("not claimed", x.claim(0), 1);
    }

    // ---- "CLAIMS: TICKETS (12) that shrank"; promise 30 ----

    private static void twelveClaims() {
        CoatWorks x = Bench.works(HOUSE);
        for (int t = 0; t < 14; t++) {
            x.ticket(0, 1, 1, 1, t, 9);
            x.news(t, 1, 0);
        }
        for (int t = 0; t < 12; t++) {
            Bench.due("claim " + t, x.claim(t), t + 1);
            Bench.due("claim " + t + " again", x.claim(t), -1);
        }
        Bench.due("a 13th", x.claim(12), -1);
        Bench.due("count(7)", x.count(7), 12);
        Bench.due("twelve causes", x.causes(), 12);
        Bench.due("the first", x.cause(0), 200);
        Bench.due("the last", x.cause(11), 211);
        Bench.due("behind the last", x.cause(12), -1);
        Bench.due("ahead of the first", x.cause(-1), -1);
        CoatWorks y = Bench.works(HOUSE);
        for (int t = 0; t < 12; t++) {
            y.ticket(0, 1, 1, 1, t, 9);
            y.news(t, 1, 0);
            y.claim(t);
        }
        Bench.due("one cause of twelve", y.causes(), 1);
        Bench.due("the cloth", y.cause(0), 100);
    }

    // ---- "or it STANDS at none of 1, 2, 3 (TODAY, as known TODAY)" ----

    private static void claimsStandAtOneToThree() {
        for (int what = 0; what <= 5; what++) {
            CoatWorks x = Bench.works(HOUSE);
            x.ticket(0, 1, 1, 1, 1, 9);
            x.later(1);
            x.news(0, what, 1);
            Bench.due("claim of one at " + what, x.claim(0), what >= 1 && what <= 3 ? 1 : -1);
            Bench.due("count(7) at " + what, x.count(7), what >= 1 && what <= 3 ? 1 : 0);
            Bench.due("possible(100) at " + what, x.possible(100), what >= 1 && what <= 3 ? 1 : 0);
        }
    }

    // ---- "CAUSES: 0 to 99 such a number, 100 and more its CLOTH, 200 and more its COUNTER"; promise 31 ----

    private static void numbersOfCauses() {
        CoatWorks x = Bench.works("cloth a 1 1;cloth b 1 1;cloth c 1 1;cloth d 1 1;cloth e 1 1;cloth f 1 1;cloth g 1 1;"
                + "cloth h 1 1;");
        x.ticket(21, 1, 1, 1, 39, 9);
        x.ticket(0, 1, 1, 1, 0, 9);
        for (int t = 0; t < 2; t++) {
            x.news(t, 1, 0);
            x.claim(t);
        }
        Bench.due("possible(0) without a load", x.possible(0), 0);
        x.loaded(0, 99);
        x.loaded(1, 1);
        for (int cause = -2; cause <= 300; cause++) {
            boolean is = cause == 1 || cause == 99 || cause == 100 || cause == 107 || cause == 200 || cause == 239;
            Bench.due("possible(" + cause + ")", x.possible(cause), is ? 1 : 0);
        }
        Bench.due("possible(least)", x.possible(Integer.MIN_VALUE), 0);
        Bench.due("possible(greatest)", x.possible(Integer.MAX_VALUE), 0);
        Bench.due("two causes", x.causes(), 2);
        Bench.due("the least", x.cause(0), 1);
        Bench.due("the next", x.cause(1), 99);
    }

    // ---- "POSSIBLE, if all TICKETS that STAND at 1, 2, or 3 with that number .. are claimed (one at least)" ----

    private static void allOfThemClaimed() {
        for (int what = 0; what <= 5; what++) {
            CoatWorks x = Bench.works(HOUSE);
            x.ticket(0, 1, 1, 1, 1, 9);
            x.ticket(0, 1, 1, 1, 1, 9);
            x.loaded(0, 5);
            x.loaded(1, 5);
            x.news(0, 2, 0);
            x.news(1, what, 0);
            Bench.due("nothing is claimed", x.possible(5) + x.possible(100) + x.possible(201), 0);
            x.claim(0);
            int possible = what >= 1 && what <= 3 ? 0 : 1;
            Bench.due("possible(5) beside one at " + what, x.possible(5), possible);
            Bench.due("possible(100) beside one at " + what, x.possible(100), possible);
            Bench.due("possible(201) beside one at " + what, x.possible(201), possible);
            Bench.due("causes() beside one at " + what, x.causes(), possible == 1 ? 1 : -1);
            Bench.due("cause(0) beside one at " + what, x.cause(0), possible == 1 ? 5 : -1);
        }
    }

    // ---- "A LOAD's number (1 to 99) may be told of a TICKET"; promises 23, 29 ----

    private static void loadNumbers() {
        CoatWorks x = Bench.works(HOUSE);
        x.ticket(0, 1, 1, 1, 1, 9);
        for (int load : new int[] {0, 1, 99, 100, -1}) {
            boolean good = load == 1 || load == 99;
            Bench.due("loaded(0, " + load + ")", x.loaded(0, load), good);
            Bench.due("drum(" + load + ", 0)", x.drum(load, 0), good);
            Bench.due("about(0, 9)", x.about(0, 9), load == 0 ? 0 : load == 1 ? 1 : 99);
        }
        for (int drum : new int[] {-1, 0, 1, 2}) {
            Bench.due("drum(99, " + drum + ")", x.drum(99, drum), drum == 0 || drum == 1);
        }
        Bench.due("the drum told last is 1, of heat 4", x.recall(0, 4), 0);
        Bench.due("which is hotter than 3", x.recall(0, 3), 1);
    }

    // ---- "RUN: with LOADS as told (at 1 or more as known TODAY or not)"; promise 24 ----

    private static void runsAsTold() {
        CoatWorks x = Bench.works(HOUSE);
        int[] kinds = {5, 0, 1, 2, 3, 4, 5};
        for (int t = 0; t < kinds.length; t++) {
            x.ticket(kinds[t], 1, 1, 1, 1, 9);
            x.loaded(t, 99);
        }
        Bench.due("all but those of shade 2", x.run(-1), 4);
        int[] rising = {1, 2, 4, 5};
        for (int k = 0; k < 4; k++) {
            Bench.due("run(" + k + ")", x.run(k), rising[k]);
        }
        Bench.due("run(4)", x.run(4), -1);
        Bench.due("run(-2)", x.run(-2), -1);
        x.news(1, 4, 0);
        x.news(0, 1, 0);
        Bench.due("however they stand", x.run(-1), 4);
        x.loaded(0, 98);
        Bench.due("another one of shade 2 that bleeds is left", x.run(-1), 4);
        x.loaded(6, 97);
        Bench.due("shade 2 of a cloth that does not bleed", x.run(-1), 0);
        CoatWorks y = Bench.works(HOUSE);
        y.ticket(5, 1, 1, 1, 1, 9);
        y.ticket(0, 1, 1, 1, 1, 9);
        Bench.due("without a number none is of one", y.run(-1), 0);
        y.loaded(0, 1);
        Bench.due("one alone", y.run(-1), 0);
        y.loaded(1, 1);
        Bench.due("both", y.run(-1), 1);
    }

    // ---- "RECALL of a CLOTH to a HEAT: .. the DRUM of which is hotter"; promises 25, 26 ----

    private static void hotterThanTheHeat() {
        CoatWorks x = Bench.works("cloth c 5 100;cloth d 4 33;drum p 9 0;drum q 9 9;drum r 9 5;");
        Bench.due("recalled(0) ahead of any", x.recalled(0), -1);
        for (int t = 0; t < 4; t++) {
            x.ticket(0, 1, 1, 1, 1, 9);
            x.loaded(t, 1 + t);
            x.drum(1 + t, Math.min(t, 2));
        }
        x.ticket(0, 1, 1, 1, 1, 9);
        x.ticket(3, 1, 1, 1, 1, 9);
        x.loaded(5, 2);
        int[] many = {3, 3, 3, 3, 3, 1, 1, 1, 1, 0};
        for (int heat = 0; heat <= 9; heat++) {
            Bench.due("recall(0, " + heat + ")", x.recall(0, heat), many[heat]);
            Bench.due("recalled(0) of " + heat, x.recalled(0), heat < 9 ? 1 : -1);
            Bench.due("recalled behind " + heat, x.recalled(many[heat]), -1);
        }
        Bench.due("recall(0, -1)", x.recall(0, -1), -1);
        Bench.due("recall(0, 10)", x.recall(0, 10), -1);
        Bench.due("recall(-1, 0)", x.recall(-1, 0), -1);
        Bench.due("recall(2, 0)", x.recall(2, 0), -1);
        Bench.due("recall(1, 8)", x.recall(1, 8), 1);
        Bench.due("recalled(0)", x.recalled(0), 5);
    }

    // ---- "a BOOK of DAYS (200)"; promise 34 "(0 to 30000 each)" ----

    private static void bookOf200Days() {
        CoatWorks x = new CoatWorks();
        for (int d = 0; d < 199; d++) {
            x.solvent(0, 1, 0);
        }
        Bench.due("the 200th", x.solvent(30000, 30000, 30000), 199);
        Bench.due("the 201st", x.solvent(0, 0, 0), -1);
        Bench.due("lost(199)", x.lost(199), 0);
        Bench.dueNoSuch("lost(200)", () -> x.lost(200));
        Bench.dueNoSuch("lost(-1)", () -> x.lost(-1));
        Bench.due("lost(0)", x.lost(0), 0);
        CoatWorks y = new CoatWorks();
        Bench.dueNoSuch("lost(0) of none", () -> y.lost(0));
        int days = 0;
        for (int i = 0; i < 3; i++) {
            for (int n : new int[] {-1, 0, 30000, 30001}) {
                int[] told = {0, 0, 0};
                told[i] = n;
                boolean good = n == 0 || n == 30000;
                Bench.due("solvent" + Arrays.toString(told), y.solvent(told[0], told[1], told[2]), good ? days : -1);
                days += good ? 1 : 0;
            }
        }
        Bench.due("count(8)", y.count(8), days);
    }

    // ---- "LOST on a DAY: what was left the DAY ahead (0 ahead of the first) and bought less what is left" ----

    private static void lostOnTheFirstDay() {
        CoatWorks x = new CoatWorks();
        x.solvent(0, 0, 30000);
        x.solvent(30000, 0, 0);
        x.solvent(0, 0, 0);
        Bench.due("the first day, more is left", x.lost(0), -30000);
        Bench.due("the second", x.lost(1), 60000);
        Bench.due("the third", x.lost(2), 0);
        Bench.due("30000 lost in two days, 0 kilos", x.broken(), 1);
    }

    // ---- "BROKEN on the first DAY at which all LOST on it and the 6 ahead of it is more than 'lose' times all KILOS" ----

    private static void brokenOnSevenDays() {
        CoatWorks x = Bench.works("lose 10;");
        x.solvent(70, 7, 0);
        Bench.due("as much as allowed", x.broken(), -1);
        for (int d = 1; d <= 5; d++) {
            x.solvent(0, 0, 0);
        }
        x.solvent(1, 0, 0);
        Bench.due("71 on seven days, 70 allowed", x.broken(), 6);
        CoatWorks y = Bench.works("lose 10;");
        y.solvent(70, 7, 0);
        for (int d = 1; d <= 6; d++) {
            y.solvent(0, 0, 0);
        }
        Bench.due("70 on seven days", y.broken(), -1);
        y.solvent(1, 0, 0);
        Bench.due("the first day counts no more: 1, none allowed", y.broken(), 7);
        CoatWorks z = Bench.works("lose 10;");
        z.solvent(10, 1, 10);
        z.solvent(21, 2, 0);
        z.solvent(0, 30000, 0);
        Bench.due("the first of all, 31 of 30 on day 1", z.broken(), 1);
        CoatWorks most = Bench.works("lose 99;");
        for (int d = 0; d < 200; d++) {
            most.solvent(30000, 30000, 0);
        }
        Bench.due("the most of all", most.broken(), -1);
    }

    // ---- "COUNTERS are at 0, 0 till told"; promise 37 "(0 to 99)" ----

    private static void placesAndCounters() {
        CoatWorks x = new CoatWorks();
        Bench.due("0, 0 till told", Bench.round(x, 0), 200);
        Bench.due("0, 0 till told", Bench.round(x, 39), 200);
        int[][] places = {{0, 0, 0, 200}, {39, 99, 99, 196}, {0, 0, 99, 198}, {39, 99, 0, 198}, {20, 50, 50, 0}};
        for (int[] p : places) {
            Bench.due("place" + Arrays.toString(p), x.place(p[0], p[1], p[2]), true);
            Bench.due("round there", Bench.round(x, p[0]), p[3]);
        }
        int[][] wrong = {{-1, 5, 5}, {40, 5, 5}, {20, -1, 5}, {20, 100, 5}, {20, 5, -1}, {20, 5, 100}};
        for (int[] p : wrong) {
            Bench.due("place" + Arrays.toString(p), x.place(p[0], p[1], p[2]), false);
        }
        Bench.due("20 is where it was", Bench.round(x, 20), 0);
    }

    // ---- "some COUNTERS (1 to 9)"; promise 38 "(1 to 9, unlike)" ----

    private static void roundsOfOneToNine() {
        CoatWorks x = new CoatWorks();
        Bench.due("roundAt(0) ahead of any", x.roundAt(0), -1);
        Bench.due("none", Bench.round(x), -1);
        for (int n = 1; n <= 10; n++) {
            Bench.due(n + " counters", Bench.round(x, upTo(n)), n <= 9 ? 200 : -1);
            Bench.due("roundAt behind the last", x.roundAt(Math.min(n, 9)), -1);
            Bench.due("roundAt the last", x.roundAt(Math.min(n, 9) - 1), Math.min(n, 9) - 1);
            Bench.due("roundAt(-1)", x.roundAt(-1), -1);
        }
        Bench.due("39", Bench.round(x, 39), 200);
        Bench.due("40", Bench.round(x, 40), -1);
        Bench.due("like ones", Bench.round(x, 0, 39, 0), -1);
        Bench.due("the latest that was not NONE", x.roundAt(0), 39);
    }

    // ---- "of like ones the first (COUNTER by COUNTER, as told)" ----

    private static void likeRounds() {
        CoatWorks x = new CoatWorks();
        x.place(1, 40, 50);
        x.place(2, 60, 50);
        x.place(3, 50, 40);
        // a ring of three legs and back: each way round is as long
        int[][] tapes = {{1, 2, 3}, {3, 2, 1}, {2, 3, 1}};
        for (int[] tape : tapes) {
            Bench.due("round of " + Arrays.toString(tape), Bench.round(x, tape), 60);
            for (int i = 0; i < 3; i++) {
                Bench.due("roundAt(" + i + ")", x.roundAt(i), tape[i]);
            }
        }
    }

    // ---- "UNFETCHED on a DAY: .. STAND at 2 on it, and are DUE 'sell' DAYS ahead of it or more"; promise 40 ----

    private static void unfetchedToTheDay() {
        CoatWorks x = Bench.works(HOUSE);
        x.ticket(0, 1, 1, 1, 1, 5);
        x.ticket(103, 1, 1, 1, 1, 6);
        x.later(20);
        x.news(0, 2, 16);
        x.news(1, 2, 10);
        Bench.due("15: due 10 days ahead, but not at the counter yet", x.unfetched(15, 0), 0);
        Bench.due("none is the first", x.unfetched(15, 2), -1);
        Bench.due("none costs nothing", x.unfetched(15, 1), 0);
        Bench.due("16", x.unfetched(16, 0), 2);
        Bench.due("16, cost", x.unfetched(16, 1), 149);
        Bench.due("16, first", x.unfetched(16, 2), 0);
        x.news(0, 3, 18);
        Bench.due("17", x.unfetched(17, 0), 2);
        Bench.due("18", x.unfetched(18, 0), 1);
        Bench.due("18, first", x.unfetched(18, 2), 1);
        Bench.due("199", x.unfetched(199, 0), 1);
        Bench.due("200", x.unfetched(200, 0), -1);
        Bench.due("0", x.unfetched(0, 0), 0);
        Bench.due("-1", x.unfetched(-1, 0), -1);
        Bench.due("what -1", x.unfetched(16, -1), -1);
        Bench.due("what 3", x.unfetched(16, 3), -1);
        for (int what = 0; what <= 5; what++) {
            CoatWorks y = Bench.works(HOUSE);
            y.ticket(0, 1, 1, 1, 1, 0);
            y.news(0, what, 0);
            Bench.due("on 9 at " + what, y.unfetched(9, 0), 0);
            Bench.due("on 10 at " + what, y.unfetched(10, 0), what == 2 ? 1 : 0);
        }
    }

    // ---- ==== 5: WHAT, SIGN, NUMBER at the number, below and above it; promise 28 ----

    private static void meetsEachSign() {
        CoatWorks x = Bench.works(HOUSE);
        x.later(2);
        x.ticket(103, 20, 5, 1, 30, 6);
        x.loaded(0, 50);
        x.later(5);
        int[] is = {5, 1, 49, 20, 5, 30, 50, 1};
        String[] whats = "age late price weight size counter load loaded".split(" ");
        for (int i = 0; i < is.length; i++) {
            for (int n = is[i] - 1; n <= is[i] + 1; n++) {
                meets(x, whats[i] + "<" + n, is[i] < n);
                meets(x, whats[i] + "=" + n, is[i] == n);
                meets(x, whats[i] + ">" + n, is[i] > n);
            }
        }
        CoatWorks early = Bench.works(HOUSE);
        early.ticket(0, 1, 0, 0, 0, 3);
        early.later(2);
        meets(early, "late<0", true);
        meets(early, "late=0", false);
        early.later(1);
        meets(early, "late<0", false);
        meets(early, "late=0", true);
        meets(early, "load=0 and loaded=0 and size=0 and counter=0", true);
        for (int n = 0; n <= 5; n++) {
            meets(early, "stands " + n, n == 0);
        }
        Bench.due("meets(1)", early.meets(1), -1);
        Bench.due("meets(-2)", early.meets(-2), -1);
    }

    private static void meets(CoatWorks x, String text, boolean holds) {
        Bench.due("rule '" + text + "'", Bench.rule(x, text) > 0, true);
        Bench.due("meets(-1) of '" + text + "'", x.meets(-1), holds ? 1 : 0);
        Bench.due("meets(0) of '" + text + "'", x.meets(0), holds ? 0 : -1);
    }

    // ---- promises 41, 42: "kept in place k (0, 1)"; "nothing is kept there" ----

    private static void imagesInTwoPlaces() {
        for (int k = -1; k <= 2; k++) {
            CoatWorks x = new CoatWorks();
            boolean isPlace = k == 0 || k == 1;
            x.later(3);
            Bench.due("restore(" + k + ") of nothing", x.restore(k), false);
            Bench.due("image(" + k + ")", x.image(k), isPlace);
            x.later(3);
            Bench.due("restore(" + (1 - k) + ") of nothing", x.restore(1 - k), false);
            Bench.due("today stays", x.count(6), 6);
            Bench.due("restore(" + k + ")", x.restore(k), isPlace);
            Bench.due("today", x.count(6), isPlace ? 3 : 6);
            x.later(1);
            Bench.due("image(" + k + ") again", x.image(k), isPlace);
            x.later(1);
            Bench.due("restore(" + k + ") again", x.restore(k), isPlace);
            Bench.due("today", x.count(6), isPlace ? 4 : 8);
        }
        // a full works is kept whole
        CoatWorks x = Bench.works(HOUSE);
        for (int t = 0; t < 40; t++) {
            x.ticket(0, 1 + t, 1, 1, t, 9);
            for (int n = 0; n < 6; n++) {
                x.news(t, 1, 0);
            }
        }
        x.contract(39, 30, 999);
        x.place(39, 99, 99);
        x.loaded(39, 99);
        x.drum(99, 1);
        x.image(0);
        Bench.house(x, "");
        x.place(39, 1, 1);
        x.restore(0);
        Bench.due("tickets", x.count(4), 40);
        Bench.due("news", x.count(5), 240);
        Bench.due("no room for news", x.news(0, 1, 0), -1);
        Bench.due("the last weight", x.about(39, 2), 40);
        Bench.due("the last stands", x.stands(39, 0, 0), 1);
        Bench.due("the last counter's contract", x.owed(39), 0);
        Bench.due("the last counter's place", Bench.round(x, 39), 196);
        Bench.due("the last load's drum", x.recall(0, 3), 1);
        Bench.due("is the last ticket's", x.recalled(0), 39);
    }

    // ---- promise 42: "(the tape, and what other calls told last, stays)" ----

    private static void theTapeStays() {
        CoatWorks x = Watch.richWorks();
        Bench.due("restore(0)", x.restore(0), true);
        Bench.due("bytes of the tape", x.count(9), 7);
        Bench.due("the tape's bytes are as they were", x.rule(), 1);
        Bench.due("size<03", x.meets(-1), 2);
        CoatWorks y = Watch.richWorks();
        y.end(0);
        y.image(1);
        Bench.feedText(y, "size<03");
        Bench.due("an image that was kept with an empty tape", y.restore(1), true);
        Bench.due("bytes of the tape", y.count(9), 7);
        Bench.due("the fault stays", y.fault(), 2);
        Bench.due("sure(0) stays", y.sure(0), 2);
        Bench.due("bestAt(0) stays", y.bestAt(0), 1);
        Bench.due("recalled(1) stays", y.recalled(1), 1);
        Bench.due("roundAt(2) stays", y.roundAt(2), 39);
    }

    // ---- promise 43: "NONE for another what" ----

    private static void counts() {
        CoatWorks x = Watch.richWorks();
        int[] want = {2, 2, 2, 2, 4, 4, 7, 1, 2, 7};
        for (int what = 0; what < 10; what++) {
            Bench.due("count(" + what + ")", x.count(what), want[what]);
        }
        for (int what : new int[] {-1, 10, Integer.MIN_VALUE, Integer.MAX_VALUE}) {
            Bench.due("count(" + what + ")", x.count(what), -1);
        }
    }
}
