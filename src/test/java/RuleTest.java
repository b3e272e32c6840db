import java.util.Random;

/** Promises 27 and 28: the text of a RULE, its FAULTS, and which TICKETS MEET it. */
public final class RuleTest {
    private static final String HOUSE = "spot ink;cloth wool 5 100;cloth silk 5 300;drum p 9 3;express 200;";

    public static void main(String[] args) {
        goodTexts();
        faults();
        tooManyOnes();
        tooDeep();
        tooLong();
        eachWhat();
        noRule();
        aFaultLeavesTheRule();
        ruleAfterRule();
        for (int seed = 1; seed <= 400; seed++) {
            new Case(seed).check();
        }
        Bench.finish("RuleTest");
    }

    private static void good(String text, int ones) {
        CoatWorks x = Bench.works(HOUSE);
        Bench.due("rule '" + text + "'", Bench.rule(x, text), ones);
        Bench.due("fault of '" + text + "'", x.fault(), 0);
        Bench.due("meets(-1) of '" + text + "'", x.meets(-1), 0);
    }

    private static void bad(String text, int kind, int place) {
        CoatWorks x = Bench.works(HOUSE);
        Bench.due("rule '" + text + "'", Bench.rule(x, text), -1 - place);
        Bench.due("fault of '" + text + "'", x.fault(), kind);
        Bench.due("meets(-1) of '" + text + "'", x.meets(-1), -1);
        Bench.due("tape behind '" + text + "'", x.count(9), 0);
    }

    private static void goodTexts() {
        good("fast", 1);
        good(" fast\n", 1);
        good("no(fast)", 3);
        good("no no fast", 3);
        good("(fast or claimed)and is wool", 4);
        good("age>0 or late<999 and price=007", 3);
        good("weight<0 and size>1 or counter=2", 3);
        good("load=1 or loaded>2 or stands 0 or stands 5 or is silk", 5);
        good("((((((fast))))))", 7);
    }

    private static void faults() {
        bad("", 1, 0);
        bad("  ", 1, 2);
        bad("fast;", 1, 4);
        bad("fast fast", 1, 5);
        bad("fast)", 1, 4);
        bad("(fast", 1, 5);
        bad("(fast;", 1, 5);
        bad("()", 1, 1);
        bad("fast and", 1, 8);
        bad("fast or ", 1, 8);
        bad("or fast", 1, 0);
        bad("fast and or fast", 1, 9);
        bad("no", 1, 2);
        bad("no and fast", 1, 3);
        bad("age", 1, 3);
        bad("age 5", 1, 4);
        bad("age;5", 1, 3);
        bad("age<=5", 1, 4);
        bad("age<fast", 1, 4);
        bad("age<1000", 1, 4);
        bad("age<5 6", 1, 6);
        bad("5<age", 1, 0);
        bad("weight<0and size>1", 1, 7);
        bad("wool", 1, 0);
        bad("spot", 1, 0);
        bad("bleeds", 1, 0);
        bad("not fast", 1, 0);
        bad("is", 1, 2);
        bad("is 5", 1, 3);
        bad("is fast", 1, 3);
        bad("is cloth", 1, 3);
        bad("is ink", 3, 3);
        bad("is p", 3, 3);
        bad("is foo", 3, 3);
        bad("is foobarqux", 1, 3);
        bad("stands", 1, 6);
        bad("stands fast", 1, 7);
        bad("stands 6", 2, 7);
        bad("stands 999", 2, 7);
        bad("stands=5", 1, 6);
        bad("stands5", 1, 0);
        bad("fast.", 1, 4);
        bad("fast\t", 1, 4);
        bad("Fast", 1, 0);
        bad("fast and is foo and bar", 3, 12);
    }

    private static String many(String one, String between, int n) {
        StringBuilder b = new StringBuilder(one);
        for (int i = 1; i < n; i++) {
            b.append(between).append(one);
        }
        return b.toString();
    }

    private static void tooManyOnes() {
        good(many("fast", " or ", 20), 20);
        good(many("fast", " and ", 20), 20);
        good(many("no fast", " or ", 10), 20);
        good(many("(fast)", "and ", 10), 20);
        bad(many("fast", " or ", 21), 4, 160);
        bad(many("fast", " or ", 20) + " or is foo", 4, 160);
        bad(many("fast", " or ", 20) + " or )", 1, 160);
        bad(many("fast", " or ", 20) + " or wool", 1, 160);
        bad(many("fast", " or ", 20) + " or", 1, 159);
        bad(many("no fast", " or ", 10) + " or (", 4, 110);
        bad(many("no fast", " or ", 9) + " or fast or no fast", 4, 110);
    }

    private static void tooDeep() {
        good(many("no", " ", 7) + " fast", 8);
        bad(many("no", " ", 8) + " fast", 4, 24);
        bad(many("no", " ", 9), 4, 24);
        bad(many("no", " ", 8) + " foo", 1, 24);
        bad(many("no", " ", 8) + " ", 1, 24);
        good("(((((((fast)))))))", 8);
        bad("((((((((fast))))))))", 4, 8);
        good("(no(no(no(fast))))", 8);
        bad("no(no(no(no(fast))))", 4, 12);
        good("no(no(no(no fast)))and no(no(no(no fast)))", 16);
        good("(((((((fast and fast or fast)))))))or fast", 11);
        bad("(((((((fast and no fast)))))))", 4, 19);
    }

    private static void tooLong() {
        good(many("fast", " or ", 2) + " ".repeat(188), 2);
        bad(many("fast", " or ", 2) + " ".repeat(189), 1, 200);
        bad(" ".repeat(201), 1, 200);
        bad("fast" + " ".repeat(197) + "or", 1, 200);
        bad(" ".repeat(198) + "fast", 1, 200);
        bad(" ".repeat(198) + "fasts", 1, 198);
        bad(" ".repeat(198) + "fast and", 1, 200);
        bad(" ".repeat(190) + "is foobar", 3, 193);
        bad(" ".repeat(196) + "is foobar", 3, 199);
        bad(" ".repeat(197) + "is foobar", 1, 200);
        good(" ".repeat(196) + "fast", 1);
    }

    private static void eachWhat() {
        CoatWorks x = Bench.works(HOUSE);
        x.later(2);
        x.ticket(1, 11, 7, 1, 21, 9);
        x.later(3);
        x.ticket(103, 12, 8, 1, 22, 6);
        x.ticket(100, 13, 9, 1, 23, 7);
        x.later(2);
        x.loaded(1, 44);
        x.loaded(2, 44);
        x.news(1, 1, 6);
        x.news(2, 2, 6);
        x.claim(2);
        meets(x, "age=5", 0);
        meets(x, "age=2", 1, 2);
        meets(x, "age>1 and age<3", 1, 2);
        meets(x, "late=0", 2);
        meets(x, "late=1", 1);
        meets(x, "late<0", 0);
        meets(x, "no late<0", 1, 2);
        meets(x, "price=100", 0);
        meets(x, "price=600", 1);
        meets(x, "price>199", 1, 2);
        meets(x, "weight=12", 1);
        meets(x, "size<8", 0);
        meets(x, "counter>21", 1, 2);
        meets(x, "load=44", 1, 2);
        meets(x, "load=0", 0);
        meets(x, "loaded=2", 1, 2);
        meets(x, "loaded=0", 0);
        meets(x, "is wool", 0, 2);
        meets(x, "is silk", 1);
        meets(x, "stands 0", 0);
        meets(x, "stands 1", 1);
        meets(x, "stands 2", 2);
        meets(x, "stands 3");
        meets(x, "fast", 1, 2);
        meets(x, "claimed", 2);
        meets(x, "is silk or is wool and claimed", 1, 2);
        meets(x, "(is silk or is wool)and claimed", 2);
        meets(x, "claimed and is wool or is silk", 1, 2);
        meets(x, "no claimed and no stands 0", 1);
        meets(x, "no(claimed or stands 0)", 1);
        meets(x, "no(claimed and stands 0)", 0, 1, 2);
    }

    private static void meets(CoatWorks x, String text, int... tickets) {
        Bench.due("rule '" + text + "'", Bench.rule(x, text) > 0, true);
        Bench.due("meets(-1) of '" + text + "'", x.meets(-1), tickets.length);
        for (int k = 0; k < tickets.length; k++) {
            Bench.due("meets(" + k + ") of '" + text + "'", x.meets(k), tickets[k]);
        }
        Bench.due("meets behind the last of '" + text + "'", x.meets(tickets.length), -1);
        Bench.due("meets(-2) of '" + text + "'", x.meets(-2), -1);
    }

    private static void noRule() {
        CoatWorks x = Bench.works(HOUSE);
        x.ticket(0, 1, 1, 1, 1, 9);
        Bench.due("meets(-1) without", x.meets(-1), -1);
        Bench.due("meets(0) without", x.meets(0), -1);
    }

    private static void ruleAfterRule() {
        CoatWorks x = Bench.works(HOUSE);
        x.ticket(0, 1, 1, 1, 1, 9);
        x.ticket(100, 1, 1, 1, 1, 9);
        for (int i = 0; i < 12; i++) {
            meets(x, many("fast", " and ", 15) + " and no fast");
            meets(x, "no " + many("fast", " or no ", 10), 0);
            meets(x, "fast or fast", 1);
        }
    }

    private static void aFaultLeavesTheRule() {
        CoatWorks x = Bench.works(HOUSE);
        x.ticket(0, 1, 1, 1, 1, 9);
        Bench.rule(x, "no fast");
        Bench.due("a faulty rule", Bench.rule(x, "fast and fast or size"), -22);
        Bench.due("its fault", x.fault(), 1);
        Bench.due("the rule stays", x.meets(-1), 1);
        Bench.due("a good rule", Bench.rule(x, "fast"), 1);
        Bench.due("no fault", x.fault(), 0);
        Bench.due("another rule", x.meets(-1), 0);
        Bench.due("a faulty house", Bench.house(x, "spot"), -5);
        Bench.due("its fault", x.fault(), 1);
        Bench.due("the rule stays", x.meets(-1), 0);
    }

    /** A random RULE as text, with its truth for each TICKET worked out beside it. */
    private static final class Case {
        private final Random random;
        private final String name;
        private final CoatWorks x = Bench.works(HOUSE);
        private final int tickets;
        private final int[][] of;
        private final StringBuilder text = new StringBuilder();
        private int ones = 0;

        Case(int seed) {
            random = new Random(seed);
            name = "seed " + seed + " ";
            tickets = 1 + random.nextInt(12);
            of = new int[tickets][];
        }

        void check() {
            makeTickets();
            long meeting = cond(1);
            Bench.due(name + text, Bench.rule(x, text.toString()), ones);
            int k = 0;
            for (int t = 0; t < tickets; t++) {
                if ((meeting >> t & 1) != 0) {
                    Bench.due(name + text + " meets(" + k + ")", x.meets(k), t);
                    k++;
                }
            }
            Bench.due(name + text + " meets(-1)", x.meets(-1), k);
        }

        private void makeTickets() {
            for (int t = 0; t < tickets; t++) {
                int kind = random.nextInt(6) + 100 * random.nextInt(2);
                of[t] = new int[] {0, 0, 0, 1 + random.nextInt(4), random.nextInt(4), random.nextInt(4), 0, 0, kind, 0, 0};
                of[t][2] = (kind % 100 < 3 ? 100 : 300) * (kind >= 100 ? 2 : 1);
                int due = x.count(6) + random.nextInt(5);
                of[t][0] = x.count(6);
                of[t][1] = due;
                x.ticket(kind, of[t][3], of[t][4], 1, of[t][5], due);
                if (random.nextBoolean()) {
                    of[t][6] = 1 + random.nextInt(3);
                    x.loaded(t, of[t][6]);
                }
                if (random.nextBoolean()) {
                    of[t][9] = 1 + random.nextInt(5);
                    x.news(t, of[t][9], x.count(6));
                    of[t][10] = random.nextBoolean() && x.claim(t) > 0 ? 1 : 0;
                }
                x.later(random.nextInt(2));
            }
            for (int[] a : of) {
                for (int[] b : of) {
                    a[7] += a[6] > 0 && a[6] == b[6] ? 1 : 0;
                }
                a[0] = x.count(6) - a[0];
                a[1] = x.count(6) - a[1];
            }
        }

        private long cond(int depth) {
            long truth = all(depth);
            while (ones < 14 && text.length() < 110 && random.nextInt(3) == 0) {
                text.append(" or ");
                truth |= all(depth);
            }
            return truth;
        }

        private long all(int depth) {
            long truth = one(depth);
            while (ones < 14 && text.length() < 110 && random.nextInt(3) == 0) {
                text.append(" and ");
                truth &= one(depth);
            }
            return truth;
        }

        private long one(int depth) {
            ones++;
            int which = random.nextInt(ones < 14 && depth < 8 && text.length() < 110 ? 14 : 12);
            if (which == 13) {
                text.append("no ");
                return ~one(depth + 1);
            }
            if (which == 12) {
                text.append("(");
                long truth = cond(depth + 1);
                text.append(")");
                return truth;
            }
            int number = random.nextInt(5);
            int sign = random.nextInt(3);
            String[] whats = {"age", "late", "price", "weight", "size", "counter", "load", "loaded"};
            if (which < 8) {
                number = which == 2 ? 100 * (1 + number) : number;
                text.append(whats[which]).append("<=>".charAt(sign)).append(number);
            } else {
                number = which == 8 ? number % 2 : number;
                text.append(which == 8 ? number == 0 ? "is wool" : "is silk"
                        : which == 9 ? "stands " + number : which == 10 ? "claimed" : "fast");
            }
            long truth = 0;
            for (int t = 0; t < tickets; t++) {
                truth |= isTrue(of[t], which, sign, number) ? 1L << t : 0;
            }
            return truth;
        }

        private static boolean isTrue(int[] ticket, int which, int sign, int number) {
            switch (which) {
                case 8: return ticket[8] % 100 / 3 == number;
                case 9: return ticket[9] == number;
                case 10: return ticket[10] == 1;
                case 11: return ticket[8] >= 100;
                default: return Integer.signum(ticket[which] - number) == sign - 1;
            }
        }
    }
}
