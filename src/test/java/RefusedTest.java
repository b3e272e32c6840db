import java.util.NoSuchElementException;
import java.util.function.Consumer;

/** A refused call of each promise: what it answers, and that it changes nothing but what the document says. */
public final class RefusedTest {
    private static final int LEAST = Integer.MIN_VALUE;
    private static final int MOST = Integer.MAX_VALUE;

    public static void main(String[] args) {
        tapeItself();
        daysAndTickets();
        news();
        asked();
        contractsAndPlaces();
        loadsAndClaims();
        latestAnswers();
        solvent();
        images();
        fullWorks();
        tapeReaders();
        faultyTexts();
        nothingFound();
        Bench.finish("RefusedTest");
    }

    /** A call that answers so and leaves all as it was, the tape too. */
    private static void refused(String call, Asked asked, long answer) {
        CoatWorks x = Watch.richWorks();
        Bench.due(call, asked.of(x), answer);
        Watch.alike("behind " + call, x, Watch.richWorks());
    }

    private interface Asked {
        long of(CoatWorks x);
    }

    private static long bit(boolean b) {
        return b ? 1 : 0;
    }

    private static long noSuch(Runnable run) {
        try {
            run.run();
        } catch (NoSuchElementException e) {
            return -77;
        }
        return 0;
    }

    private static void tapeItself() {
        for (int n : new int[] {-1, 8, 940, LEAST, MOST}) {
            refused("end(" + n + ")", x -> bit(x.end(n)), 0);
        }
        refused("end(7) of seven", x -> bit(x.end(7)), 1);
        CoatWorks full = new CoatWorks();
        Bench.feedText(full, "spot a;" + " ".repeat(914));
        Bench.due("feed behind 921", full.feed(-1, -1, -1, -1, -1), -1);
        Bench.due("still 921", full.count(9), 921);
        full.end(900);
        Bench.due("its bytes are as they were", full.house(), 1);
    }

    private static void daysAndTickets() {
        for (int n : new int[] {-1, 193, 199, 200, LEAST, MOST}) {
            refused("later(" + n + ")", x -> x.later(n), -1);
        }
        int[][] wrong = {
            {-1, 1, 0, 0, 0, 7}, {6, 1, 0, 0, 0, 7}, {99, 1, 0, 0, 0, 7}, {106, 1, 0, 0, 0, 7},
            {0, 0, 0, 0, 0, 7}, {0, 201, 0, 0, 0, 7}, {0, 1, -1, 0, 0, 7}, {0, 1, 10, 0, 0, 7},
            {0, 1, 0, -1, 0, 7}, {0, 1, 0, 256, 0, 7}, {0, 1, 0, 0, -1, 7}, {0, 1, 0, 0, 40, 7},
            {0, 1, 0, 0, 0, 6}, {0, 1, 0, 0, 0, 200}, {LEAST, 1, 0, 0, 0, 7}, {MOST, 1, 0, 0, 0, 7},
        };
        for (int[] w : wrong) {
            refused("ticket" + java.util.Arrays.toString(w), x -> x.ticket(w[0], w[1], w[2], w[3], w[4], w[5]), -1);
        }
    }

    private static void news() {
        int[][] wrong = {
            {-1, 1, 7}, {4, 1, 7}, {LEAST, 1, 7}, {MOST, 1, 7}, {2, 0, 7}, {2, 6, 7}, {2, LEAST, 7}, {2, MOST, 7},
            {2, 1, 1}, {2, 1, 8}, {3, 1, 5}, {2, 1, LEAST}, {2, 1, MOST},
        };
        for (int[] w : wrong) {
            refused("news" + java.util.Arrays.toString(w), x -> x.news(w[0], w[1], w[2]), -1);
        }
    }

    private static void asked() {
        for (int t : new int[] {-1, 4, LEAST, MOST}) {
            refused("about(" + t + ", 0)", x -> noSuch(() -> x.about(t, 0)), -77);
            refused("stands(" + t + ", 7, 7)", x -> x.stands(t, 7, 7), -1);
        }
        for (int what : new int[] {-1, 10, LEAST, MOST}) {
            refused("about(0, " + what + ")", x -> noSuch(() -> x.about(0, what)), -77);
            refused("count(" + what + ")", x -> x.count(what), -1);
        }
        for (int d : new int[] {-1, 2, LEAST, MOST}) {
            refused("lost(" + d + ")", x -> noSuch(() -> x.lost(d)), -77);
        }
        for (int day : new int[] {-1, 1, 200, LEAST, MOST}) {
            refused("stands(0, " + day + ", 7)", x -> x.stands(0, day, 7), -1);
            refused("stands(0, 7, " + day + ")", x -> x.stands(0, 7, day), -1);
        }
        for (int day : new int[] {-1, 200, LEAST, MOST}) {
            refused("unfetched(" + day + ", 0)", x -> x.unfetched(day, 0), -1);
        }
        for (int what : new int[] {-1, 3, LEAST, MOST}) {
            refused("unfetched(40, " + what + ")", x -> x.unfetched(40, what), -1);
        }
        for (int what : new int[] {-1, 4, LEAST, MOST}) {
            refused("open(" + what + ")", x -> x.open(what), -1);
        }
        for (int t : new int[] {-2, 4, LEAST, MOST}) {
            refused("twice(" + t + ")", x -> x.twice(t), -2);
        }
        for (int k : new int[] {-2, 1, LEAST, MOST}) {
            refused("run(" + k + ")", x -> x.run(k), -1);
        }
        for (int k : new int[] {-2, 3, LEAST, MOST}) {
            refused("meets(" + k + ")", x -> x.meets(k), -1);
        }
        for (int cause : new int[] {-1, 0, 10, 102, 199, 203, 240, LEAST, MOST}) {
            refused("possible(" + cause + ")", x -> x.possible(cause), 0);
        }
    }

    private static void contractsAndPlaces() {
        int[][] contracts = {{-1, 1, 1}, {40, 1, 1}, {LEAST, 1, 1}, {MOST, 1, 1}, {1, -1, 1}, {1, 31, 1}, {1, LEAST, 1},
            {1, MOST, 1}, {1, 2, -1}, {1, 2, 1000}, {1, 2, LEAST}, {1, 2, MOST}};
        for (int[] c : contracts) {
            refused("contract" + java.util.Arrays.toString(c), x -> bit(x.contract(c[0], c[1], c[2])), 0);
        }
        for (int counter : new int[] {-1, 0, 2, 39, 40, LEAST, MOST}) {
            refused("owed(" + counter + ")", x -> x.owed(counter), -1);
        }
        int[][] places = {{-1, 1, 1}, {40, 1, 1}, {LEAST, 1, 1}, {MOST, 1, 1}, {3, -1, 1}, {3, 100, 1}, {3, 1, -1},
            {3, 1, 100}, {3, LEAST, 1}, {3, MOST, 1}, {3, 1, LEAST}, {3, 1, MOST}};
        for (int[] p : places) {
            refused("place" + java.util.Arrays.toString(p), x -> bit(x.place(p[0], p[1], p[2])), 0);
        }
    }

    private static void loadsAndClaims() {
        int[][] drums = {{0, 1}, {100, 1}, {-1, 1}, {LEAST, 1}, {MOST, 1}, {9, -1}, {9, 2}, {9, LEAST}, {9, MOST}};
        for (int[] d : drums) {
            refused("drum" + java.util.Arrays.toString(d), x -> bit(x.drum(d[0], d[1])), 0);
        }
        int[][] loads = {{0, 0}, {0, 100}, {0, -1}, {0, LEAST}, {0, MOST}, {-1, 5}, {4, 5}, {LEAST, 5}, {MOST, 5}};
        for (int[] l : loads) {
            refused("loaded" + java.util.Arrays.toString(l), x -> bit(x.loaded(l[0], l[1])), 0);
        }
        for (int t : new int[] {-1, 0, 2, 4, LEAST, MOST}) {
            refused("claim(" + t + ")", x -> x.claim(t), -1);
        }
        int[][] recalls = {{-1, 5}, {2, 5}, {LEAST, 5}, {MOST, 5}, {1, -1}, {1, 10}, {1, LEAST}, {1, MOST}};
        for (int[] r : recalls) {
            refused("recall" + java.util.Arrays.toString(r), x -> x.recall(r[0], r[1]), -1);
        }
        // claim 0 has CLOTH, COUNTER and LOAD in common with TICKET 1, which is not claimed: none is POSSIBLE
        CoatWorks x = Watch.richWorks();
        CoatWorks y = Watch.richWorks();
        x.loaded(0, 8);
        y.loaded(0, 8);
        x.causes();
        y.causes();
        x.loaded(0, 9);
        y.loaded(0, 9);
        Bench.due("causes() with none that is possible", x.causes(), -1);
        Bench.due("cause(0) stays", x.cause(0), 8);
        Watch.alike("behind causes() with none that is possible", x, y);
    }

    private static void latestAnswers() {
        for (int i : new int[] {-1, 3, 6, 9, 12, 40, LEAST, MOST}) {
            refused("sure(" + i + ")", x -> x.sure(i), -1);
            refused("bestAt(" + i + ")", x -> x.bestAt(i), -1);
            refused("recalled(" + i + ")", x -> x.recalled(i), -1);
            refused("cause(" + i + ")", x -> x.cause(i), -1);
            refused("roundAt(" + i + ")", x -> x.roundAt(i), -1);
        }
    }

    private static void solvent() {
        for (int far : new int[] {-1, 30001, LEAST, MOST}) {
            refused("solvent(" + far + ", 0, 0)", x -> x.solvent(far, 0, 0), -1);
            refused("solvent(0, " + far + ", 0)", x -> x.solvent(0, far, 0), -1);
            refused("solvent(0, 0, " + far + ")", x -> x.solvent(0, 0, far), -1);
        }
    }

    private static void images() {
        for (int k : new int[] {-1, 2, LEAST, MOST}) {
            refused("image(" + k + ")", x -> bit(x.image(k)), 0);
            refused("restore(" + k + ")", x -> bit(x.restore(k)), 0);
        }
        CoatWorks x = new CoatWorks();
        x.later(3);
        Bench.due("restore(0) with nothing kept", x.restore(0), false);
        Bench.due("restore(1) with nothing kept", x.restore(1), false);
        Bench.due("today stays", x.count(6), 3);
        x.image(0);
        x.later(1);
        Bench.due("restore(1) with only 0 kept", x.restore(1), false);
        Bench.due("today stays", x.count(6), 4);
    }

    /** Where there is no room for one more: TICKETS, NEWS, CLAIMS, the BOOK. */
    private static void fullWorks() {
        atTheLimit("a 41st ticket", x -> fill(40, () -> x.ticket(0, 1, 1, 1, 1, 9)), x -> x.ticket(0, 1, 1, 1, 1, 9));
        atTheLimit("a 241st news", x -> {
            x.ticket(0, 1, 1, 1, 1, 9);
            fill(240, () -> x.news(0, 2, 0));
        }, x -> x.news(0, 1, 0));
        atTheLimit("a 13th claim", x -> {
            for (int t = 0; t < 13; t++) {
                x.ticket(0, 1, 1, 1, 1, 9);
                x.news(t, 1, 0);
            }
            for (int t = 0; t < 12; t++) {
                x.claim(t);
            }
        }, x -> x.claim(12));
        atTheLimit("a 201st day of the book", x -> fill(200, () -> x.solvent(9, 1, 9)), x -> x.solvent(1, 1, 1));
    }

    private static void fill(int many, Runnable run) {
        for (int i = 0; i < many; i++) {
            run.run();
        }
    }

    private static void atTheLimit(String name, Consumer<CoatWorks> filling, Asked more) {
        String text = "cloth c 5 100;drum d 9 5;";
        CoatWorks x = Bench.works(text);
        CoatWorks y = Bench.works(text);
        filling.accept(x);
        filling.accept(y);
        Bench.due(name, more.of(x), -1);
        for (int what = 0; what < 10; what++) {
            Bench.due("count(" + what + ") behind " + name, x.count(what), y.count(what));
        }
        Watch.alike("behind " + name, x, y);
    }

    /** A call that reads the tape and refuses it: the tape is empty, all else as it was. */
    private static void emptied(String call, int[] tape, Asked asked, long answer) {
        CoatWorks x = Watch.richWorks();
        CoatWorks y = Watch.richWorks();
        x.end(0);
        y.end(0);
        Bench.feedBytes(x, tape);
        String told = call + " of " + java.util.Arrays.toString(tape);
        Bench.due(told, asked.of(x), answer);
        Bench.due("tape behind " + told, x.count(9), 0);
        Watch.alike("behind " + told, x, y);
    }

    private static void tapeReaders() {
        int[][] wrongTickets = {{}, {4}, {255}, {2, 2}, {0}, {1}, {3}, {2, 0}, new int[11]};
        for (int[] tape : wrongTickets) {
            emptied("loads", tape, CoatWorks::loads, -2);
            emptied("patience", tape, CoatWorks::patience, -2);
            emptied("hurry", tape, CoatWorks::hurry, -2);
        }
        int[][] wrongCoats = {{}, {1, 0, 3, 1, 10}, {1, 0, 3, 1, 10, 10, 1}, {2, 0, 3, 1, 10, 10}, {1, 3, 3, 1, 10, 10},
            {1, 0, 10, 1, 10, 10}, {1, 0, 3, 1, 11, 10}, {1, 0, 3, 1, 10, 11}, new int[54]};
        for (int[] tape : wrongCoats) {
            emptied("found", tape, CoatWorks::found, -1);
        }
        int[][] wrongChances = {{}, {20}, {9, 10}, {11, 10}, {10, 10, 0}, {255, 21}};
        for (int[] tape : wrongChances) {
            emptied("best(0)", tape, x -> x.best(0), -1);
            emptied("out(0, 1)", tape, x -> x.out(0, 1), -1);
        }
        int[] chances = {10, 10};
        for (int far : new int[] {-1, 2, LEAST, MOST}) {
            emptied("best(" + far + ")", chances, x -> x.best(far), -1);
            emptied("out(" + far + ", 1)", chances, x -> x.out(far, 1), -1);
        }
        for (int far : new int[] {-1, 7, LEAST, MOST}) {
            emptied("out(0, " + far + ")", chances, x -> x.out(0, far), -1);
        }
        int[][] wrongRounds = {{}, {40}, {255}, {3, 3}, {0, 1, 2, 3, 4, 5, 6, 7, 8, 9}};
        for (int[] tape : wrongRounds) {
            emptied("round", tape, CoatWorks::round, -1);
        }
    }

    /** house() and rule() with a FAULT: the FAULT is told, the tape is empty, the old one stays. */
    private static void faultyTexts() {
        faulty("spot a;spot a;", CoatWorks::house, 3, 12);
        faulty("cloth z 1 1;drum y 9 9;loads 4;express 300;agent x 100;", CoatWorks::house, 2, 51);
        faulty("foo", CoatWorks::house, 1, 0);
        faulty("drum a 1 1;drum b 1 1;drum e 1 1;drum f 1 1;drum g 1 1;", CoatWorks::house, 4, 44);
        faulty("fast or is s", CoatWorks::rule, 3, 11);
        faulty("claimed and stands 7", CoatWorks::rule, 2, 19);
        faulty("", CoatWorks::rule, 1, 0);
        faulty("no no no no no no no no fast", CoatWorks::rule, 4, 24);
    }

    private static void faulty(String text, Asked asked, int kind, int place) {
        CoatWorks x = Watch.richWorks();
        CoatWorks y = Watch.richWorks();
        x.end(0);
        y.end(0);
        Bench.feedText(x, text);
        Bench.due("'" + text + "'", asked.of(x), -1 - place);
        Bench.due("fault of '" + text + "'", x.fault(), kind);
        Bench.due("tape behind '" + text + "'", x.count(9), 0);
        // the like FAULT of a RULE, so that fault() itself is alike
        String[] like = {"", "foo", "stands 6", "is foo", "no ".repeat(8) + "fast"};
        Bench.rule(y, like[kind]);
        Watch.alike("behind '" + text + "'", x, y);
    }

    /** found() of 0 is no refusal, but leaves SURE as it was. */
    private static void nothingFound() {
        emptied("found", new int[] {1, 0, 4, 1, 10, 10}, CoatWorks::found, 0);
    }
}
