/** Promises 6 to 8, 29 and 43: DAYS, TICKETS, and what is told about them. */
public final class TicketsTest {
    private static final String HOUSE = "cloth c 5 101;cloth d 3 999 bleeds;drum p 9 3;express 299;";

    public static void main(String[] args) {
        days();
        aTicket();
        wrongTickets();
        fortyTickets();
        lastCloth();
        wrongQuestions();
        loadNumbers();
        Bench.finish("TicketsTest");
    }

    private static void days() {
        CoatWorks x = new CoatWorks();
        Bench.due("later(-1)", x.later(-1), -1);
        Bench.due("later(200)", x.later(200), -1);
        Bench.due("later(greatest)", x.later(Integer.MAX_VALUE), -1);
        Bench.due("later(least)", x.later(Integer.MIN_VALUE), -1);
        Bench.due("later(0)", x.later(0), 0);
        Bench.due("later(5)", x.later(5), 5);
        Bench.due("later(195)", x.later(195), -1);
        Bench.due("count(6)", x.count(6), 5);
        Bench.due("later(194)", x.later(194), 199);
        Bench.due("later(1)", x.later(1), -1);
        Bench.due("later(0)", x.later(0), 199);
        Bench.due("later(199) of a new one", new CoatWorks().later(199), 199);
    }

    private static void aTicket() {
        CoatWorks x = Bench.works(HOUSE);
        x.later(4);
        Bench.due("ticket", x.ticket(105, 200, 9, 255, 39, 199), 0);
        Bench.due("ticket", x.ticket(0, 1, 0, 0, 0, 4), 1);
        Bench.due("ticket", x.ticket(101, 7, 3, 6, 5, 20), 2);
        Bench.due("ticket", x.ticket(4, 8, 4, 7, 6, 21), 3);
        int[][] want = {
            {1, 2, 200, 9, 255, 39, 4, 199, 2987, 0},
            {0, 0, 1, 0, 0, 0, 4, 4, 101, 0},
            {0, 1, 7, 3, 6, 5, 4, 20, 301, 0},
            {1, 1, 8, 4, 7, 6, 4, 21, 999, 0},
        };
        x.later(3);
        for (int t = 0; t < want.length; t++) {
            for (int what = 0; what < 10; what++) {
                Bench.due("about(" + t + ", " + what + ")", x.about(t, what), want[t][what]);
            }
        }
        Bench.due("count(4)", x.count(4), 4);
    }

    private static void wrong(CoatWorks x, int kind, int weight, int size, int marks, int counter, int due) {
        String call = "ticket(" + kind + ", " + weight + ", " + size + ", " + marks + ", " + counter + ", " + due + ")";
        int had = x.count(4);
        Bench.due(call, x.ticket(kind, weight, size, marks, counter, due), -1);
        Bench.due("count behind " + call, x.count(4), had);
    }

    private static void wrongTickets() {
        CoatWorks x = Bench.works(HOUSE);
        x.later(4);
        int[] wrongKinds = {-1, 6, 7, 24, 99, 106, 107, 123, 200, -100, Integer.MIN_VALUE, Integer.MAX_VALUE};
        for (int kind : wrongKinds) {
            wrong(x, kind, 10, 1, 1, 1, 9);
        }
        for (int far : new int[] {Integer.MIN_VALUE, -1, Integer.MAX_VALUE}) {
            wrong(x, 0, far, 1, 1, 1, 9);
            wrong(x, 0, 10, far, 1, 1, 9);
            wrong(x, 0, 10, 1, far, 1, 9);
            wrong(x, 0, 10, 1, 1, far, 9);
            wrong(x, 0, 10, 1, 1, 1, far);
        }
        wrong(x, 0, 0, 1, 1, 1, 9);
        wrong(x, 0, 201, 1, 1, 1, 9);
        wrong(x, 0, 10, 10, 1, 1, 9);
        wrong(x, 0, 10, 1, 256, 1, 9);
        wrong(x, 0, 10, 1, 1, 40, 9);
        wrong(x, 0, 10, 1, 1, 1, 3);
        wrong(x, 0, 10, 1, 1, 1, 200);
        wrong(new CoatWorks(), 0, 10, 1, 1, 1, 9);
    }

    private static void fortyTickets() {
        CoatWorks x = Bench.works(HOUSE);
        for (int t = 0; t < 40; t++) {
            Bench.due("ticket " + t, x.ticket(t % 6, 1 + t, t % 10, t, t, t), t);
        }
        Bench.due("ticket 40", x.ticket(0, 1, 1, 1, 1, 1), -1);
        Bench.due("count(4)", x.count(4), 40);
        Bench.due("about(39, 2)", x.about(39, 2), 40);
    }

    private static void lastCloth() {
        StringBuilder text = new StringBuilder();
        for (char c = 'a'; c < 'i'; c++) {
            text.append("cloth ").append(c).append(" 1 ").append(c - 'a').append(';');
        }
        CoatWorks x = Bench.works(text.toString());
        Bench.due("ticket(23, ..)", x.ticket(23, 1, 1, 1, 1, 1), 0);
        Bench.due("ticket(123, ..)", x.ticket(123, 1, 1, 1, 1, 1), 1);
        Bench.due("ticket(24, ..)", x.ticket(24, 1, 1, 1, 1, 1), -1);
        Bench.due("about(0, 0)", x.about(0, 0), 7);
        Bench.due("about(1, 8): 7 times 150 by 100, cut", x.about(1, 8), 10);
    }

    private static void wrongQuestions() {
        CoatWorks x = Bench.works(HOUSE);
        Bench.dueNoSuch("about(0, 0) of none", () -> x.about(0, 0));
        x.ticket(0, 1, 1, 1, 1, 1);
        for (int t : new int[] {-1, 1, 40, Integer.MIN_VALUE, Integer.MAX_VALUE}) {
            Bench.dueNoSuch("about(" + t + ", 0)", () -> x.about(t, 0));
        }
        for (int what : new int[] {-1, 10, 11, 12, 13, 14, Integer.MIN_VALUE, Integer.MAX_VALUE}) {
            Bench.dueNoSuch("about(0, " + what + ")", () -> x.about(0, what));
        }
    }

    private static void loadNumbers() {
        CoatWorks x = Bench.works(HOUSE);
        x.ticket(0, 1, 1, 1, 1, 1);
        Bench.due("loaded(0, 0)", x.loaded(0, 0), false);
        Bench.due("loaded(0, 100)", x.loaded(0, 100), false);
        Bench.due("loaded(0, -1)", x.loaded(0, -1), false);
        Bench.due("loaded(1, 1)", x.loaded(1, 1), false);
        Bench.due("loaded(-1, 1)", x.loaded(-1, 1), false);
        Bench.due("about(0, 9)", x.about(0, 9), 0);
        Bench.due("loaded(0, 99)", x.loaded(0, 99), true);
        Bench.due("about(0, 9)", x.about(0, 9), 99);
        Bench.due("loaded(0, 1)", x.loaded(0, 1), true);
        Bench.due("about(0, 9)", x.about(0, 9), 1);
        Bench.due("loaded(0, 100)", x.loaded(0, 100), false);
        Bench.due("about(0, 9)", x.about(0, 9), 1);
    }
}
