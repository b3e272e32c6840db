import java.util.Arrays;

/** The edges of LOADS, PATIENCE, hurry, FOUND coats and SPOTS: sentence by sentence. */
public final class SearchEdgesTest {
    private static final long WHOLE = 1280000000L;

    public static void main(String[] args) {
        oneToTenTickets();
        unlikeAndInWork();
        ofOneShade();
        heatOfEachCloth();
        tenTimesItsKilos();
        noneDueAheadOfThatDay();
        loadsOnEachDay();
        fewestIsNotSoonest();
        patienceToTheDay();
        patienceWithMoreLoads();
        hurriedFirst();
        tapeIsEmptyThen();
        nothingBehindTheEnd();
        oneToEightCoats();
        sixBytesEach();
        whatFits();
        marksSeen();
        digitsOfThePin();
        sureOnes();
        aChainOfNineTickets();
        sureOfTheLatest();
        chancesTogetherTwenty();
        ofEachSpotOne();
        onAClothOfTheHouse();
        likeOrders();
        orderOfTheLatest();
        withZeroToSix();
        Bench.finish("SearchEdgesTest");
    }

    private static int[] upTo(int n) {
        int[] row = new int[n];
        for (int i = 0; i < n; i++) {
            row[i] = i;
        }
        return row;
    }

    /** All three calls that plan LOADS, where they answer alike. */
    private static void planned(CoatWorks x, int answer, int... tape) {
        String of = " of " + Arrays.toString(tape);
        Bench.due("loads" + of, Bench.loads(x, tape), answer);
        Bench.due("patience" + of, Bench.patience(x, tape), answer);
        Bench.due("hurry" + of, Bench.hurry(x, tape), answer);
    }

    // ---- "FEWEST LOADS for told TICKETS (1 to 10)"; "-2: not as told" ----

    private static void oneToTenTickets() {
        CoatWorks x = Bench.works("cloth c 5 10;drum d 99 0;");
        for (int t = 0; t < 11; t++) {
            x.ticket(0, 90, 1, 1, 1, 0);
        }
        planned(x, -2);
        Bench.due("one", Bench.loads(x, 10), 1);
        Bench.due("nine", Bench.loads(x, upTo(9)), 1);
        Bench.due("ten", Bench.loads(x, upTo(10)), 1);
        Bench.due("ten, patience", Bench.patience(x, upTo(10)), 0);
        Bench.due("ten, hurry", Bench.hurry(x, upTo(10)), 1);
        planned(x, -2, upTo(11));
    }

    // ---- "TICKETS (1 to 10, unlike, in WORK)" ----

    private static void unlikeAndInWork() {
        CoatWorks x = Bench.works("cloth c 5 10;drum d 99 0;");
        for (int t = 0; t < 8; t++) {
            x.ticket(0, 1, 1, 1, 1, 9);
            x.news(t, t, 0);
        }
        planned(x, -2, 0, 0);
        planned(x, -2, 0, 6, 0);
        planned(x, -2, 8);
        planned(x, -2, 0, 255);
        for (int t = 1; t <= 5; t++) {
            planned(x, -2, t);
            planned(x, -2, 0, t);
        }
        Bench.due("0, 6 and 7 are in work", Bench.loads(x, 7, 6, 0), 1);
        // news of an earlier DAY do not bring one back into WORK; nor do those of a later one, told later
        x.later(3);
        x.news(6, 1, 1);
        planned(x, -2, 6);
    }

    // ---- "TICKETS of one SHADE" ----

    private static void ofOneShade() {
        CoatWorks x = Bench.works("cloth c 5 10;cloth e 5 10;drum d 99 0;loads 4;");
        for (int kind = 0; kind < 6; kind++) {
            x.ticket(kind, 1, 1, 1, 1, 0);
        }
        Bench.due("one shade of two cloths", Bench.loads(x, 1, 4), 1);
        Bench.due("shades 0 and 1", Bench.loads(x, 0, 1), 2);
        Bench.due("shades 0 and 2", Bench.loads(x, 0, 5), 2);
        Bench.due("shades 1 and 2", Bench.loads(x, 1, 2), 2);
        Bench.due("all", Bench.loads(x, upTo(6)), 3);
    }

    // ---- "the HEAT of each CLOTH at least that of the DRUM" ----

    private static void heatOfEachCloth() {
        for (int heat = 0; heat <= 9; heat++) {
            CoatWorks x = Bench.works("cloth c 5 10;cloth e 9 10;drum d 99 " + heat + ";");
            x.ticket(0, 1, 1, 1, 1, 0);
            x.ticket(3, 1, 1, 1, 1, 0);
            Bench.due("heat 5 in a drum of " + heat, Bench.loads(x, 0), heat <= 5 ? 1 : -1);
            Bench.due("heat 9 in a drum of " + heat, Bench.loads(x, 1), 1);
            Bench.due("both in a drum of " + heat, Bench.loads(x, 0, 1), heat <= 5 ? 1 : -1);
        }
        CoatWorks two = Bench.works("cloth c 5 10;cloth e 9 10;drum hot 99 9;drum mild 2 5;");
        two.ticket(0, 20, 1, 1, 1, 0);
        two.ticket(3, 20, 1, 1, 1, 0);
        Bench.due("each in its own drum", Bench.loads(two, 0, 1), 2);
    }

    // ---- "WEIGHTS together 10 times its KILOS at most" ----

    private static void tenTimesItsKilos() {
        CoatWorks x = Bench.works("cloth c 5 10;drum d 20 5;loads 1;");
        x.ticket(0, 200, 1, 1, 1, 0);
        x.ticket(0, 199, 1, 1, 1, 0);
        x.ticket(0, 1, 1, 1, 1, 0);
        x.ticket(0, 2, 1, 1, 1, 0);
        Bench.due("200", Bench.loads(x, 0), 1);
        Bench.due("199 and 1", Bench.loads(x, 1, 2), 1);
        Bench.due("200 and 1", Bench.loads(x, 0, 2), -1);
        Bench.due("199 and 2", Bench.loads(x, 1, 3), -1);
        CoatWorks big = Bench.works("cloth c 5 10;drum d 99 5;loads 1;");
        for (int t = 0; t < 5; t++) {
            big.ticket(0, 198, 1, 1, 1, 0);
        }
        big.ticket(0, 199, 1, 1, 1, 0);
        Bench.due("990 in 99 kilos", Bench.loads(big, 0, 1, 2, 3, 4), 1);
        Bench.due("991 in 99 kilos", Bench.loads(big, 0, 1, 2, 3, 5), -1);
    }

    // ---- "on one DAY (TODAY or later)", "none DUE ahead of that DAY"; "NONE: some are late" ----

    private static void noneDueAheadOfThatDay() {
        CoatWorks x = Bench.works("cloth c 5 10;drum d 1 5;loads 1;");
        x.later(5);
        x.ticket(0, 10, 1, 1, 1, 5);
        x.ticket(0, 10, 1, 1, 1, 6);
        x.ticket(0, 10, 1, 1, 1, 6);
        Bench.due("due today", Bench.loads(x, 0), 1);
        Bench.due("due today and tomorrow", Bench.loads(x, 0, 1), 2);
        Bench.due("two due tomorrow", Bench.loads(x, 1, 2), 2);
        Bench.due("all three", Bench.loads(x, 0, 1, 2), -1);
        Bench.due("all three, patience", Bench.patience(x, 0, 1, 2), -1);
        x.later(1);
        Bench.due("due yesterday", Bench.loads(x, 0), -1);
        Bench.due("due yesterday, patience", Bench.patience(x, 0), -1);
        Bench.due("due today", Bench.loads(x, 1), 1);
        Bench.due("one that is late among others", Bench.loads(x, 1, 0), -1);
        // on the last DAY of all
        x.later(193);
        x.ticket(0, 10, 1, 1, 1, 199);
        x.ticket(0, 10, 1, 1, 1, 199);
        Bench.due("on 199", Bench.loads(x, 3), 1);
        Bench.due("on 199, patience", Bench.patience(x, 3), 199);
        Bench.due("two on 199", Bench.loads(x, 3, 4), -1);
    }

    // ---- "On each DAY 'loads' LOADS at most." ----

    private static void loadsOnEachDay() {
        for (int perDay = 1; perDay <= 4; perDay++) {
            CoatWorks x = Bench.works("cloth c 5 10;drum d 1 5;drum e 1 5;loads " + perDay + ";");
            for (int t = 0; t < 10; t++) {
                x.ticket(0, 10, 1, 1, 1, 1);
            }
            int most = Math.min(10, 2 * perDay);
            Bench.due(most + " on two days", Bench.loads(x, upTo(most)), most);
            Bench.due(most + " on two days, patience", Bench.patience(x, upTo(most)), 0);
            if (most < 10) {
                Bench.due(most + 1 + " on two days", Bench.loads(x, upTo(most + 1)), -1);
            }
        }
    }

    /** Coats of one LOAD may wait for one another, as long as none is late. */
    private static void fewestIsNotSoonest() {
        CoatWorks x = Bench.works("cloth c 5 10;drum d 2 5;loads 1;");
        x.ticket(0, 10, 1, 1, 1, 0);
        x.ticket(0, 10, 1, 1, 1, 9);
        x.ticket(0, 10, 1, 1, 1, 0);
        x.ticket(0, 10, 1, 1, 1, 9);
        Bench.due("two and two", Bench.loads(x, 0, 1, 2, 3), 2);
        Bench.due("one of each", Bench.loads(x, 0, 1), 1);
        Bench.due("three", Bench.loads(x, 0, 1, 3), 2);
    }

    // ---- "PATIENCE: the latest DAY from which on all can still be done so (none ahead of it)" ----

    private static void patienceToTheDay() {
        CoatWorks x = Bench.works("cloth c 5 10;drum d 1 5;loads 1;");
        x.later(2);
        x.ticket(0, 10, 1, 1, 1, 8);
        x.ticket(0, 10, 1, 1, 1, 8);
        x.ticket(0, 10, 1, 1, 1, 9);
        x.ticket(1, 10, 1, 1, 1, 199);
        Bench.due("one due on 8", Bench.patience(x, 0), 8);
        Bench.due("two due on 8", Bench.patience(x, 0, 1), 7);
        Bench.due("and one on 9", Bench.patience(x, 0, 1, 2), 7);
        Bench.due("one on 8, one on 9", Bench.patience(x, 1, 2), 8);
        Bench.due("and one on 199", Bench.patience(x, 0, 1, 2, 3), 7);
        Bench.due("one on 199", Bench.patience(x, 3), 199);
        x.later(5);
        Bench.due("on that day", Bench.patience(x, 0, 1), 7);
        x.later(1);
        Bench.due("a day later", Bench.patience(x, 0, 1), -1);
        Bench.due("one alone", Bench.patience(x, 0), 8);
        x.later(1);
        Bench.due("one alone, late", Bench.patience(x, 0), -1);
    }

    /** "all can still be done so": none late is what is asked, not that it takes no more than the FEWEST LOADS. */
    private static void patienceWithMoreLoads() {
        CoatWorks x = Bench.works("cloth c 5 10;drum d 10 5;loads 1;");
        x.ticket(0, 40, 1, 1, 1, 1);
        x.ticket(0, 40, 1, 1, 1, 1);
        x.ticket(0, 60, 1, 1, 1, 9);
        x.ticket(0, 60, 1, 1, 1, 9);
        Bench.due("an early one with a late one each", Bench.loads(x, 0, 1, 2, 3), 2);
        Bench.due("both early ones in one load a day later", Bench.patience(x, 0, 1, 2, 3), 1);
        x.later(1);
        Bench.due("which takes three", Bench.loads(x, 0, 1, 2, 3), 3);
        Bench.due("and then it can wait no more", Bench.patience(x, 0, 1, 2, 3), 1);
    }

    // ---- promise 22: "if the first of them were DUE TODAY" ----

    private static void hurriedFirst() {
        CoatWorks x = Bench.works("cloth c 5 10;drum d 1 5;loads 1;");
        x.later(3);
        x.ticket(0, 10, 1, 1, 1, 3);
        x.ticket(0, 10, 1, 1, 1, 4);
        x.ticket(0, 10, 1, 1, 1, 5);
        Bench.due("the first is due today", Bench.hurry(x, 0, 1, 2), 3);
        Bench.due("the second is due today too", Bench.hurry(x, 1, 0, 2), -1);
        Bench.due("the third ahead of the second", Bench.hurry(x, 2, 1), 2);
        Bench.due("no other than the first is hurried", Bench.hurry(x, 1, 2), 2);
        x.later(1);
        Bench.due("one that is late, as if due today", Bench.hurry(x, 0), 1);
        Bench.due("and one that is due today", Bench.hurry(x, 0, 1), -1);
        Bench.due("and one that is due tomorrow", Bench.hurry(x, 0, 2), 2);
        Bench.due("one that is late is not the first", Bench.hurry(x, 2, 0), -1);
        Bench.due("due is as it was", x.about(2, 7), 5);
    }

    // ---- promise 4: "The tape (empty then, here and below)" ----

    private static void tapeIsEmptyThen() {
        CoatWorks x = Bench.works("spot s;cloth c 5 10;drum d 1 5;loads 1;");
        x.ticket(0, 10, 1, 1, 1, 3);
        Bench.loads(x, 0);
        Bench.due("behind loads", x.count(9), 0);
        Bench.patience(x, 0);
        Bench.due("behind patience", x.count(9), 0);
        Bench.hurry(x, 0);
        Bench.due("behind hurry", x.count(9), 0);
        Bench.found(x, 0, 0, 1, 1, 10, 10);
        Bench.due("behind found", x.count(9), 0);
        Bench.best(x, 0, 20);
        Bench.due("behind best", x.count(9), 0);
        Bench.out(x, 0, 1, 20);
        Bench.due("behind out", x.count(9), 0);
        Bench.round(x, 1);
        Bench.due("behind round", x.count(9), 0);
        Bench.rule(x, "fast");
        Bench.due("behind rule", x.count(9), 0);
        Bench.house(x, "spot a;");
        Bench.due("behind house", x.count(9), 0);
    }

    /** What was cut off the tape, or stood on it earlier, is not read. */
    private static void nothingBehindTheEnd() {
        CoatWorks x = Bench.works("spot s;spot t;agent a 3 s 20;cloth c 5 10;drum d 9 0;");
        x.ticket(0, 1, 1, 1, 1, 9);
        x.ticket(0, 1, 1, 1, 1, 9);
        x.feed(0x0a0a0711, 0x22334455, -1, -1, -1);
        x.end(2);
        Bench.due("best of the first two", x.best(0), 3 * WHOLE);
        x.feed(0x0a0a0711, 0x22334455, -1, -1, -1);
        x.end(2);
        Bench.due("out of the first two", x.out(0, 1), WHOLE / 2);
        x.feed(0x0001ffff, -1, -1, -1, -1);
        x.end(2);
        Bench.due("loads of the first two", x.loads(), 1);
        x.feed(0x0001ffff, -1, -1, -1, -1);
        x.end(2);
        Bench.due("round of the first two", x.round(), 200);
        x.feed(0x00000100, 0x0a0affff, -1, -1, -1);
        x.end(6);
        Bench.due("found of the first six", x.found(), 2);
        x.feed(0x66617374, 0x66617374, -1, -1, -1);
        x.end(4);
        Bench.due("rule of the first four", x.rule(), 1);
        x.feed(0x73706f74, 0x20613b73, 0x706f7420, 0x613b3b3b, -1);
        x.end(7);
        Bench.due("house of the first seven", x.house(), 1);
    }

    // ---- "FOUND coats (1 to 8)" ----

    private static int[] coats(int many, int... coat) {
        int[] tape = new int[6 * many];
        for (int i = 0; i < tape.length; i++) {
            tape[i] = coat[i % 6];
        }
        return tape;
    }

    private static void oneToEightCoats() {
        CoatWorks x = Bench.works("cloth c 5 10;");
        for (int t = 0; t < 8; t++) {
            x.ticket(0, 1, 1, 1, 1, 9);
        }
        long ways = 1;
        Bench.due("none", Bench.found(x), -1);
        for (int n = 1; n <= 8; n++) {
            ways *= 9 - n;
            Bench.due(n + " coats", Bench.found(x, coats(n, 0, 0, 1, 0, 10, 10)), ways);
        }
        Bench.due("nine coats", Bench.found(x, coats(9, 0, 0, 1, 0, 10, 10)), -1);
        x.news(3, 4, 0);
        Bench.due("eight coats of seven tickets", Bench.found(x, coats(8, 0, 0, 1, 0, 10, 10)), 0);
        CoatWorks all = Bench.works("cloth c 5 10;");
        for (int t = 0; t < 40; t++) {
            all.ticket(0, 1, 1, 1, 1, 9);
        }
        Bench.due("the most ways of all", Bench.found(all, coats(8, 0, 0, 1, 0, 10, 10)),
                40L * 39 * 38 * 37 * 36 * 35 * 34 * 33);
    }

    // ---- promise 14: "(six each: CLOTH, SHADE, SIZE, MARKS, two digits)" ----

    private static void sixBytesEach() {
        CoatWorks x = Bench.works("cloth c 5 10;cloth e 5 10;");
        x.ticket(5, 1, 9, 255, 1, 9);
        for (int n = 1; n <= 50; n++) {
            Bench.due(n + " bytes", Bench.found(x, Arrays.copyOf(coats(9, 1, 2, 9, 255, 10, 10), n)),
                    n == 6 ? 1 : n % 6 == 0 && n <= 48 ? 0 : -1);
        }
        int[] most = {1, 2, 9, 255, 10, 10};
        for (int i = 0; i < 6; i++) {
            int[] told = most.clone();
            told[i] = (most[i] + 1) % 256;
            Bench.due("found of " + Arrays.toString(told), Bench.found(x, told), i == 3 ? 1 : -1);
            told[i] = 255;
            Bench.due("found of " + Arrays.toString(told), Bench.found(x, told), i == 3 ? 1 : -1);
            told[i] = 0;
            Bench.due("found of " + Arrays.toString(told), Bench.found(x, told), i >= 3 ? 1 : 0);
        }
        int[] second = coats(2, most);
        second[11] = 11;
        Bench.due("the second is not as told", Bench.found(x, second), -1);
    }

    // ---- "a TICKET FITS, if it is OPEN, the first three are its own" ----

    private static void whatFits() {
        CoatWorks x = Bench.works("cloth c 5 10;cloth e 5 10;");
        x.ticket(4, 1, 5, 255, 1, 9);
        for (int cloth = 0; cloth < 2; cloth++) {
            for (int shade = 0; shade < 3; shade++) {
                for (int size = 4; size <= 6; size++) {
                    boolean fits = cloth == 1 && shade == 1 && size == 5;
                    Bench.due("found " + cloth + ", " + shade + ", " + size,
                            Bench.found(x, cloth, shade, size, 255, 0, 0), fits ? 1 : 0);
                }
            }
        }
        for (int what = 1; what <= 5; what++) {
            x.news(0, what, 0);
            Bench.due("found at " + what, Bench.found(x, 1, 1, 5, 0, 0, 0), what <= 2 ? 1 : 0);
        }
    }

    // ---- "all MARKS seen are among its own" ----

    private static void marksSeen() {
        CoatWorks x = Bench.works("cloth c 5 10;");
        x.ticket(0, 1, 0, 0, 1, 9);
        x.ticket(0, 1, 0, 255, 1, 9);
        x.ticket(0, 1, 0, 0b10100000, 1, 9);
        for (int bit = 0; bit < 8; bit++) {
            Bench.due("bit " + bit + " of 0", Bench.found(x, 0, 0, 0, 1 << bit, 0, 0), 0);
            Bench.due("bit " + bit + " of 255", Bench.found(x, 0, 0, 0, 1 << bit, 0, 1), 1);
            Bench.due("bit " + bit + " of 160", Bench.found(x, 0, 0, 0, 1 << bit, 0, 2), bit == 5 || bit == 7 ? 1 : 0);
        }
        Bench.due("none seen", Bench.found(x, 0, 0, 0, 0, 10, 10), 3);
        Bench.due("160 of 160", Bench.found(x, 0, 0, 0, 160, 0, 2), 1);
        Bench.due("161 of 160", Bench.found(x, 0, 0, 0, 161, 0, 2), 0);
        Bench.due("255 of 255", Bench.found(x, 0, 0, 0, 255, 10, 10), 1);
    }

    // ---- "the pin's two digits (0 to 9, 10: can't be read) .. its number by 10, cut, and the rest" ----

    private static void digitsOfThePin() {
        CoatWorks x = Bench.works("cloth c 5 10;");
        for (int t = 0; t < 40; t++) {
            x.ticket(0, 1, 0, 0, 1, 9);
        }
        for (int tens = 0; tens <= 11; tens++) {
            for (int ones = 0; ones <= 11; ones++) {
                long want = tens == 11 || ones == 11 ? -1
                        : (tens == 10 ? 4 : tens <= 3 ? 1 : 0) * (ones == 10 ? 10 : 1);
                Bench.due("found with pin " + tens + ", " + ones, Bench.found(x, 0, 0, 0, 0, tens, ones), want);
                if (want == 1) {
                    Bench.due("sure with pin " + tens + ", " + ones, x.sure(0), 10 * tens + ones);
                }
            }
        }
    }

    // ---- "SURE: if a coat is one and the same TICKET's in all WAYS" ----

    private static void sureOnes() {
        CoatWorks x = Bench.works("cloth c 5 10;");
        x.ticket(0, 1, 0, 1, 1, 9);
        x.ticket(0, 1, 0, 3, 1, 9);
        x.ticket(0, 1, 0, 3, 1, 9);
        Bench.due("two ways", Bench.found(x, 0, 0, 0, 2, 10, 10, 0, 0, 0, 2, 10, 10, 0, 0, 0, 1, 10, 10), 2);
        Bench.due("the first is 1's or 2's", x.sure(0), -1);
        Bench.due("the second too", x.sure(1), -1);
        Bench.due("so the third is 0's", x.sure(2), 0);
        Bench.due("there is no fourth", x.sure(3), -1);
        Bench.due("nor one ahead of the first", x.sure(-1), -1);
    }

    /** Eight coats, each of which may be of one of two TICKETS, in a chain of nine: one TICKET is left over. */
    private static void aChainOfNineTickets() {
        for (int turned = 0; turned < 2; turned++) {
            CoatWorks x = Bench.works("cloth c 5 10;");
            for (int t = 0; t <= 8; t++) {
                x.ticket(0, 1, 0, (1 << t | 1 << t >> 1) & 255, 1, 9);
            }
            int[] tape = coats(8, 0, 0, 0, 0, 10, 10);
            for (int i = 0; i < 8; i++) {
                tape[6 * i + 3] = 1 << (turned == 0 ? i : 7 - i);
            }
            Bench.due("nine ways", Bench.found(x, tape), 9);
            for (int i = 0; i < 8; i++) {
                Bench.due("sure(" + i + ") of nine ways", x.sure(i), -1);
            }
            x.news(turned == 0 ? 0 : 8, 3, 0);
            Bench.due("one way, when one end of the chain is fetched", Bench.found(x, tape), 1);
            for (int i = 0; i < 8; i++) {
                Bench.due("sure(" + i + ") of one way", x.sure(i), turned == 0 ? i + 1 : 7 - i);
            }
        }
    }

    // ---- promise 15: "of the latest found() that was above 0"; "ahead of any" ----

    private static void sureOfTheLatest() {
        CoatWorks x = Bench.works("cloth c 5 10;");
        Bench.due("ahead of any", x.sure(0), -1);
        x.ticket(0, 1, 0, 1, 1, 9);
        Bench.due("found of none", Bench.found(x, 0, 0, 0, 2, 10, 10), 0);
        Bench.due("ahead of any above 0", x.sure(0), -1);
        Bench.due("found of one", Bench.found(x, 0, 0, 0, 1, 10, 10), 1);
        Bench.due("sure(0)", x.sure(0), 0);
        Bench.due("found of none", Bench.found(x, 0, 0, 0, 2, 10, 10), 0);
        Bench.due("sure(0) stays", x.sure(0), 0);
        Bench.due("found not as told", Bench.found(x, 0), -1);
        Bench.due("sure(0) stays", x.sure(0), 0);
        x.news(0, 5, 0);
        Bench.due("sold since: sure(0) stays", x.sure(0), 0);
    }

    // ---- "each SPOT has a chance by 20 (together 20)"; promises 16, 18 ----

    private static void chancesTogetherTwenty() {
        CoatWorks x = Bench.works("spot s;spot t;agent a 3 s 5 t 10;cloth c 5 10;");
        for (int s = 0; s <= 21; s++) {
            for (int t : new int[] {19 - s, 20 - s, 21 - s}) {
                if (t >= 0) {
                    boolean good = s + t == 20;
                    Bench.due("best of " + s + ", " + t, Bench.best(x, 0, s, t), good ? 3 * WHOLE : -1);
                    Bench.due("out of " + s + ", " + t, Bench.out(x, 0, 1, s, t), good ? (5L * s + 10L * t) * 3200000 : -1);
                }
            }
        }
        Bench.due("best of 255, 21", Bench.best(x, 0, 255, 21), -1);
        Bench.due("out of 236, 40", Bench.out(x, 0, 1, 236, 40), -1);
    }

    // ---- "the tape's bytes being chances (of each SPOT)" ----

    private static void ofEachSpotOne() {
        for (int spots = 0; spots <= 6; spots++) {
            StringBuilder text = new StringBuilder("cloth c 5 10;");
            for (int s = 0; s < spots; s++) {
                text.append("spot s").append((char) ('a' + s)).append(';');
            }
            CoatWorks x = Bench.works(text.toString());
            for (int bytes = 0; bytes <= 7; bytes++) {
                int[] tape = new int[bytes];
                if (bytes > 0) {
                    tape[bytes - 1] = 20;
                }
                boolean good = bytes == spots && spots > 0;
                Bench.due("best of " + bytes + " with " + spots + " spots", Bench.best(x, 0, tape), good ? 0 : -1);
                Bench.due("out of " + bytes + " with " + spots + " spots", Bench.out(x, 0, 6, tape), good ? 0 : -1);
            }
        }
    }

    private static void onAClothOfTheHouse() {
        CoatWorks x = Bench.works("spot s;agent a 3 s 20;cloth c 5 10;cloth d 5 10 not a;");
        int[] cloths = {-1, 0, 1, 2, Integer.MIN_VALUE, Integer.MAX_VALUE};
        long[] best = {-1, 3 * WHOLE, 0, -1, -1, -1};
        long[] out = {-1, WHOLE, 0, -1, -1, -1};
        for (int i = 0; i < cloths.length; i++) {
            Bench.due("best(" + cloths[i] + ")", Bench.best(x, cloths[i], 20), best[i]);
            Bench.due("out(" + cloths[i] + ", 1)", Bench.out(x, cloths[i], 1, 20), out[i]);
        }
        Bench.due("best(0) of no cloths", Bench.best(Bench.works("spot s;"), 0, 20), -1);
    }

    // ---- "BEST ORDER: the least COST; of like ones the first by numbers" ----

    private static void likeOrders() {
        CoatWorks x = Bench.works("spot s;agent a 4 s 10;agent b 4 s 10;agent e 4 s 10;agent f 4 s 10;agent g 4 s 10;"
                + "agent h 4 s 10;cloth c 5 10;cloth d 5 10 not a not e not h;");
        Bench.due("six like ones", Bench.best(x, 0, 20), 4 * WHOLE * 63 / 32);
        for (int i = -1; i <= 6; i++) {
            Bench.due("bestAt(" + i + ")", x.bestAt(i), i < 6 ? i : -1);
        }
        Bench.due("three of them", Bench.best(x, 1, 20), 4 * WHOLE * 7 / 4);
        int[] left = {1, 3, 4, -1};
        for (int i = 0; i < 4; i++) {
            Bench.due("bestAt(" + i + ") of three", x.bestAt(i), left[i]);
        }
        CoatWorks dear = Bench.works("spot s;agent a 99;agent b 99;agent e 99;agent f 99;agent g 99;agent h 99;cloth c 5 10;");
        Bench.due("the most that an order can cost", Bench.best(dear, 0, 20), 6 * 99 * WHOLE);
        CoatWorks y = Bench.works("spot s;agent a 99;agent b 98 s 1;cloth c 5 10;");
        Bench.due("the dearest comes last", Bench.best(y, 0, 20), 98 * WHOLE + 99 * WHOLE / 20 * 19);
        Bench.due("bestAt(0)", y.bestAt(0), 1);
        Bench.due("bestAt(1)", y.bestAt(1), 0);
    }

    // ---- promise 17: "by the latest best() that was not NONE"; "ahead of any" ----

    private static void orderOfTheLatest() {
        CoatWorks x = Bench.works("spot s;agent a 3 s 2;agent b 1 s 2;cloth c 5 10;cloth d 5 10 not a not b;");
        Bench.due("ahead of any", x.bestAt(0), -1);
        Bench.due("best not as told", Bench.best(x, 0, 19), -1);
        Bench.due("still ahead of any", x.bestAt(0), -1);
        Bench.best(x, 0, 20);
        Bench.due("bestAt(0)", x.bestAt(0), 1);
        Bench.due("best not as told", Bench.best(x, 2, 20), -1);
        Bench.due("out", Bench.out(x, 1, 1, 20), 0);
        Bench.due("bestAt(0) stays", x.bestAt(0), 1);
        Bench.due("bestAt(1) stays", x.bestAt(1), 0);
        Bench.due("best of no agent", Bench.best(x, 1, 20), 0);
        Bench.due("bestAt(0) of no agent", x.bestAt(0), -1);
    }

    // ---- "OUT with k (0 to 6)": "k of them at most" ----

    private static void withZeroToSix() {
        CoatWorks x = Bench.works("spot s;agent a 1 s 10;agent b 1 s 10;agent e 1 s 10;agent f 1 s 10;agent g 1 s 10;"
                + "agent h 1 s 10;cloth c 5 10;cloth d 5 10 not a not b not e not f;");
        for (int k = -1; k <= 7; k++) {
            boolean good = k >= 0 && k <= 6;
            Bench.due("out(0, " + k + ")", Bench.out(x, 0, k, 20), good ? WHOLE - (WHOLE >> k) : -1);
            Bench.due("out(1, " + k + ")", Bench.out(x, 1, k, 20), good ? WHOLE - (WHOLE >> Math.min(k, 2)) : -1);
        }
    }
}
