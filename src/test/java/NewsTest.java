import java.util.ArrayList;
import java.util.List;
import java.util.Random;

/** Promises 9 to 11, 19 to 21, 40 to 42: NEWS, and all that hangs on them, against a plain model. */
public final class NewsTest {
    private static final String HOUSE = "cloth c 5 101;cloth d 3 70;sell 4;express 110;";

    public static void main(String[] args) {
        wrongNews();
        latestDayThenToldLast();
        manyNews();
        contracts();
        unfetchedEdges();
        for (int seed = 1; seed <= 150; seed++) {
            new Run(seed).play();
        }
        Bench.finish("NewsTest");
    }

    private static void wrongNews() {
        CoatWorks x = Bench.works(HOUSE);
        x.later(5);
        x.ticket(0, 1, 1, 1, 1, 9);
        x.later(3);
        Bench.due("news ahead of its day", x.news(0, 1, 4), -1);
        Bench.due("news behind today", x.news(0, 1, 9), -1);
        Bench.due("news 0", x.news(0, 0, 6), -1);
        Bench.due("news 6", x.news(0, 6, 6), -1);
        Bench.due("news of 1", x.news(1, 1, 6), -1);
        Bench.due("news of -1", x.news(-1, 1, 6), -1);
        Bench.due("no news", x.count(5), 0);
        Bench.due("news on its day", x.news(0, 1, 5), 0);
        Bench.due("news today", x.news(0, 5, 8), 1);
        Bench.due("stands ahead of its day", x.stands(0, 4, 9), -1);
        Bench.due("stands known ahead of its day", x.stands(0, 9, 4), -1);
        Bench.due("stands on its day, known then", x.stands(0, 5, 5), 0);
        Bench.due("stands on its day, known by 8", x.stands(0, 5, 8), 1);
        Bench.due("stands on 8, known by 7", x.stands(0, 8, 7), 0);
        Bench.due("stands on 199, known by 199", x.stands(0, 199, 199), 5);
        Bench.due("stands on 200", x.stands(0, 200, 199), -1);
        Bench.due("stands by 200", x.stands(0, 199, 200), -1);
        Bench.due("stands on -1", x.stands(0, -1, 199), -1);
        Bench.due("stands by -1", x.stands(0, 9, -1), -1);
        Bench.due("stands of 1", x.stands(1, 9, 9), -1);
        Bench.due("stands of -1", x.stands(-1, 9, 9), -1);
        Bench.due("open(-1)", x.open(-1), -1);
        Bench.due("open(4)", x.open(4), -1);
    }

    private static void latestDayThenToldLast() {
        CoatWorks x = Bench.works(HOUSE);
        x.ticket(0, 1, 1, 1, 1, 9);
        x.later(9);
        x.news(0, 3, 6);
        x.news(0, 2, 4);
        Bench.due("the latest day, though told first", x.stands(0, 9, 9), 3);
        Bench.due("day 5", x.stands(0, 5, 9), 2);
        Bench.due("day 3", x.stands(0, 3, 9), 0);
        x.news(0, 4, 6);
        Bench.due("of like days the one told last", x.stands(0, 9, 9), 4);
        x.later(1);
        x.news(0, 1, 6);
        Bench.due("told later", x.stands(0, 9, 10), 1);
        Bench.due("not known by 9", x.stands(0, 9, 9), 4);
        Bench.due("open(0)", x.open(0), 1);
        Bench.due("open(1)", x.open(1), 0);
        x.news(0, 3, 10);
        Bench.due("open(0)", x.open(0), 0);
        Bench.due("open(3)", x.open(3), 101);
    }

    private static void manyNews() {
        CoatWorks x = Bench.works(HOUSE);
        x.ticket(0, 1, 1, 1, 1, 9);
        for (int i = 0; i < 240; i++) {
            Bench.due("news " + i, x.news(0, 1 + i % 5, 0), i);
        }
        Bench.due("news 240", x.news(0, 1, 0), -1);
        Bench.due("count(5)", x.count(5), 240);
        Bench.due("stands as the last", x.stands(0, 0, 0), 5);
        x.contract(1, 0, 1);
        Bench.due("owed(1)", x.owed(1), 0);
        Bench.due("twice(0)", x.twice(0), 0);
        Bench.due("unfetched(199, 0)", x.unfetched(199, 0), 0);
        Bench.house(x, HOUSE);
        x.ticket(0, 1, 1, 1, 1, 9);
        x.later(3);
        x.contract(1, 0, 1);
        Bench.due("owed(1) without news", x.owed(1), 3);
        x.news(0, 1, 2);
        Bench.due("twice(0) of one news", x.twice(0), 0);
    }

    private static void contracts() {
        CoatWorks bare = new CoatWorks();
        CoatWorks x = Bench.works(HOUSE);
        Bench.due("contract(-1, 0, 0)", x.contract(-1, 0, 0), false);
        Bench.due("contract(40, 0, 0)", x.contract(40, 0, 0), false);
        Bench.due("contract(0, -1, 0)", x.contract(0, -1, 0), false);
        Bench.due("contract(0, 31, 0)", x.contract(0, 31, 0), false);
        Bench.due("contract(0, 0, -1)", x.contract(0, 0, -1), false);
        Bench.due("contract(0, 0, 1000)", x.contract(0, 0, 1000), false);
        Bench.due("owed(0) without one", x.owed(0), -1);
        Bench.due("owed(-1)", x.owed(-1), -1);
        Bench.due("owed(40)", x.owed(40), -1);
        Bench.due("contract of a new object", bare.contract(3, 30, 1), true);
        Bench.due("owed(2) of a new object", bare.owed(2), -1);
        Bench.due("owed(3) of a new object", bare.owed(3), 0);
        Bench.due("contract(39, 30, 999)", x.contract(39, 30, 999), true);
        Bench.due("owed(39)", x.owed(39), 0);
        x.ticket(0, 1, 1, 1, 39, 9);
        x.later(30);
        Bench.due("owed(39) on day 30", x.owed(39), 0);
        x.later(2);
        Bench.due("owed(39) on day 32", x.owed(39), 1998);
        x.news(0, 4, 31);
        Bench.due("owed(39) of a lost one", x.owed(39), 0);
        x.news(0, 2, 32);
        Bench.due("owed(39) of one at the counter on 32", x.owed(39), 1998);
        x.news(0, 2, 31);
        Bench.due("owed(39) of the first day at the counter", x.owed(39), 999);
        Bench.due("contract(39, 0, 2)", x.contract(39, 0, 2), true);
        Bench.due("owed(39) by another contract", x.owed(39), 62);
    }

    private static void unfetchedEdges() {
        CoatWorks x = Bench.works(HOUSE);
        x.ticket(0, 1, 1, 1, 1, 5);
        x.ticket(103, 1, 1, 1, 1, 6);
        x.later(6);
        x.news(0, 2, 6);
        x.news(1, 2, 3);
        Bench.due("on 8", x.unfetched(8, 0), 0);
        Bench.due("the first on 8", x.unfetched(8, 2), -1);
        Bench.due("on 9, 4 days behind due", x.unfetched(9, 0), 1);
        Bench.due("on 10", x.unfetched(10, 0), 2);
        Bench.due("cost on 10", x.unfetched(10, 1), 101 + 77);
        Bench.due("the first on 10", x.unfetched(10, 2), 0);
        x.news(0, 3, 6);
        Bench.due("the first on 199", x.unfetched(199, 2), 1);
        Bench.due("unfetched(200, 0)", x.unfetched(200, 0), -1);
        Bench.due("unfetched(-1, 0)", x.unfetched(-1, 0), -1);
        Bench.due("unfetched(10, 3)", x.unfetched(10, 3), -1);
        Bench.due("unfetched(10, -1)", x.unfetched(10, -1), -1);
    }

    /** One run of random calls beside a model that keeps plain lists. */
    private static final class Run {
        private final Random random;
        private final CoatWorks x = Bench.works(HOUSE);
        private Model now = new Model();
        private final Model[] kept = new Model[2];
        private String call = "";

        Run(int seed) {
            random = new Random(seed);
            call = "run " + seed + " ";
        }

        void play() {
            for (int i = 0; i < 130; i++) {
                change();
                ask();
            }
        }

        private void change() {
            int which = random.nextInt(12);
            if (which == 0) {
                int n = random.nextInt(4);
                Bench.due(call + "later", x.later(n), now.today + n > 199 ? -1 : (now.today += n));
            } else if (which <= 3 && now.tickets.size() < 40) {
                int kind = random.nextInt(6) + 100 * random.nextInt(2);
                int counter = random.nextInt(3);
                int due = now.today + random.nextInt(Math.min(8, 200 - now.today));
                Bench.due(call + "ticket", x.ticket(kind, 5, 5, 5, counter, due), now.tickets.size());
                int price = kind % 100 / 3 == 0 ? 101 : 70;
                now.tickets.add(new int[] {counter, now.today, due, kind >= 100 ? price * 110 / 100 : price});
            } else if (which == 4) {
                int k = random.nextInt(2);
                Bench.due(call + "image", x.image(k), true);
                kept[k] = now.copy();
            } else if (which == 5 && random.nextInt(3) == 0) {
                int k = random.nextInt(2);
                Bench.due(call + "restore", x.restore(k), kept[k] != null);
                now = kept[k] != null ? kept[k].copy() : now;
            } else if (which == 6) {
                int[] c = {random.nextInt(3), random.nextInt(6), random.nextInt(100)};
                Bench.due(call + "contract", x.contract(c[0], c[1], c[2]), true);
                now.contracts[c[0]] = c;
            } else if (!now.tickets.isEmpty()) {
                int t = random.nextInt(now.tickets.size());
                int taken = now.tickets.get(t)[1];
                int[] n = {t, 1 + random.nextInt(5), taken + random.nextInt(now.today - taken + 1), now.today};
                Bench.due(call + "news", x.news(n[0], n[1], n[2]), now.news.size());
                now.news.add(n);
            }
        }

        private void ask() {
            for (int what = 0; what < 4; what++) {
                Bench.due(call + "open " + what, x.open(what), now.open(what));
            }
            int day = random.nextInt(Math.min(200, now.today + 10));
            int by = random.nextInt(now.today + 1);
            if (!now.tickets.isEmpty()) {
                int t = random.nextInt(now.tickets.size());
                boolean taken = now.tickets.get(t)[1] <= Math.min(day, by);
                Bench.due(call + "stands", x.stands(t, day, by), taken ? now.stands(t, day, by) : -1);
                Bench.due(call + "twice", x.twice(t), now.twice(t));
            }
            int twice = 0;
            for (int t = 0; t < now.tickets.size(); t++) {
                twice += now.twice(t);
            }
            Bench.due(call + "twice of all", x.twice(-1), twice);
            Bench.due(call + "twice of none", x.twice(now.tickets.size()), -2);
            Bench.due(call + "twice(-2)", x.twice(-2), -2);
            for (int counter = 0; counter < 3; counter++) {
                Bench.due(call + "owed", x.owed(counter), now.owed(counter));
            }
            for (int what = 0; what < 3; what++) {
                Bench.due(call + "unfetched " + what, x.unfetched(day, what), now.unfetched(day, what));
            }
            Bench.due(call + "today", x.count(6), now.today);
            Bench.due(call + "tickets", x.count(4), now.tickets.size());
            Bench.due(call + "news", x.count(5), now.news.size());
        }
    }

    private static final class Model {
        int today = 0;
        List<int[]> tickets = new ArrayList<>();
        List<int[]> news = new ArrayList<>();
        int[][] contracts = new int[3][];

        Model copy() {
            Model m = new Model();
            m.today = today;
            m.tickets = new ArrayList<>(tickets);
            m.news = new ArrayList<>(news);
            m.contracts = contracts.clone();
            return m;
        }

        int stands(int t, int day, int by) {
            int[] latest = {0, 0, -1, 0};
            for (int[] n : news) {
                if (n[0] == t && n[3] <= by && n[2] <= day && n[2] >= latest[2]) {
                    latest = n;
                }
            }
            return latest[1];
        }

        int open(int what) {
            int sum = 0;
            for (int t = 0; t < tickets.size(); t++) {
                int at = stands(t, today, today);
                switch (what) {
                    case 0: sum += at <= 2 ? 1 : 0; break;
                    case 1: sum += at == 0 ? 1 : 0; break;
                    case 2: sum += at == 0 && tickets.get(t)[2] < today ? 1 : 0; break;
                    default: sum += at == 3 ? tickets.get(t)[3] : 0; break;
                }
            }
            return sum;
        }

        int twice(int t) {
            for (int[] a : news) {
                for (int[] b : news) {
                    if (a[0] == t && b[0] == t && a[1] == 1 && b[1] == 1 && a[2] != b[2]) {
                        return 1;
                    }
                }
            }
            return 0;
        }

        int owed(int counter) {
            if (contracts[counter] == null) {
                return -1;
            }
            int sum = 0;
            for (int t = 0; t < tickets.size(); t++) {
                int came = 1000;
                for (int[] n : news) {
                    came = n[0] == t && n[1] == 2 ? Math.min(came, n[2]) : came;
                }
                if (came == 1000) {
                    came = stands(t, today, today) <= 2 ? today : -1000;
                }
                int late = came - tickets.get(t)[1] - contracts[counter][1];
                sum += tickets.get(t)[0] == counter && late > 0 ? late * contracts[counter][2] : 0;
            }
            return sum;
        }

        int unfetched(int day, int what) {
            int many = 0;
            int cost = 0;
            int first = -1;
            for (int t = tickets.size() - 1; t >= 0; t--) {
                if (stands(t, day, today) == 2 && day - tickets.get(t)[2] >= 4) {
                    many++;
                    cost += tickets.get(t)[3];
                    first = t;
                }
            }
            return what == 0 ? many : what == 1 ? cost : first;
        }
    }
}
