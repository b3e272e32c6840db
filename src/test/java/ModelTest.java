import java.util.NoSuchElementException;
import java.util.Random;

/** Random calls, each asked of CoatWorks and of PlainWorks: 500 on each object, with wrong ones among them. */
public final class ModelTest {
    private static final int[] FAR = {Integer.MIN_VALUE, Integer.MAX_VALUE, -1, -2, 100, 200, 256, 1000, 30001};

    private final Random random;
    private final String name;
    private final CoatWorks x = new CoatWorks();
    private final PlainWorks y = new PlainWorks();

    private ModelTest(int seed) {
        random = new Random(seed);
        name = "seed " + seed;
    }

    public static void main(String[] args) {
        int seeds = args.length > 0 ? Integer.parseInt(args[0]) : 250;
        for (int seed = 1; seed <= seeds; seed++) {
            new ModelTest(seed).play();
        }
        Bench.finish("ModelTest");
    }

    private void play() {
        if (random.nextInt(8) > 0) {
            tellHouse(goodHouse());
        }
        for (int i = 0; i < 420; i++) {
            call(i);
        }
    }

    private int below(int n) {
        return random.nextInt(n);
    }

    private boolean rarely() {
        return below(12) == 0;
    }

    /** A number of a range, or just outside it, or far off. */
    private int near(int low, int high) {
        if (rarely()) {
            return below(3) == 0 ? FAR[below(FAR.length)] : below(2) == 0 ? low - 1 : high + 1;
        }
        int which = below(6);
        return which == 0 || high < low ? low : which == 1 ? high : low + below(high - low + 1);
    }

    private int someTicket() {
        return near(0, Math.max(0, x.count(4) - 1));
    }

    private void due(String call, long got, long want) {
        Bench.due(name + " " + call, got, want);
    }

    private void due(String call, boolean got, boolean want) {
        Bench.due(name + " " + call, got, want);
    }

    // ---- tapes ----

    private void tell(int... bytes) {
        if (below(4) > 0) {
            due("end(0)", x.end(0), y.end(0));
        }
        int had = x.count(9);
        for (int i = 0; i < bytes.length; i += 20) {
            int[] five = new int[5];
            for (int j = 0; j < 20; j++) {
                five[j / 4] = five[j / 4] << 8 | (i + j < bytes.length ? bytes[i + j] & 255 : 0);
            }
            due("feed", x.feed(five[0], five[1], five[2], five[3], five[4]), y.feed(five));
        }
        due("end", x.end(had + bytes.length), y.end(had + bytes.length));
    }

    private void tellText(String text) {
        due("end(0)", x.end(0), y.end(0));
        int[] bytes = new int[text.length()];
        for (int i = 0; i < bytes.length; i++) {
            bytes[i] = text.charAt(i);
        }
        tell(bytes);
    }

    private void tellHouse(String text) {
        tellText(text);
        due("house '" + text + "'", x.house(), y.house());
        due("fault of '" + text + "'", x.fault(), y.fault());
    }

    private void tellRule(String text) {
        tellText(text);
        due("rule '" + text + "'", x.rule(), y.rule());
        due("fault of '" + text + "'", x.fault(), y.fault());
    }

    // ---- texts ----

    private String goodHouse() {
        StringBuilder b = new StringBuilder();
        int spots = below(4);
        for (int s = 0; s < spots; s++) {
            b.append("spot s").append((char) ('a' + s)).append(';');
        }
        int agents = below(5);
        for (int a = 0; a < agents; a++) {
            b.append("agent a").append((char) ('a' + a)).append(' ').append(below(2) == 0 ? below(100) : below(4));
            for (int s = 0; s < spots; s++) {
                if (below(2) == 0) {
                    b.append(" s").append((char) ('a' + s)).append(' ').append(below(21));
                }
            }
            b.append(';');
        }
        int cloths = 1 + below(3);
        for (int c = 0; c < cloths; c++) {
            b.append("cloth c").append((char) ('a' + c)).append(' ').append(3 + below(7)).append(' ').append(below(1000));
            b.append(below(2) == 0 ? " bleeds" : "");
            for (int a = 0; a < agents; a++) {
                b.append(below(4) == 0 ? " not a" + (char) ('a' + a) : "");
            }
            b.append(";\n");
        }
        for (int d = below(4); d >= 0; d--) {
            b.append("drum d").append((char) ('a' + d)).append(' ').append(1 + below(30)).append(' ').append(below(7));
            b.append(';');
        }
        b.append(below(2) == 0 ? "loads " + (1 + below(4)) + " ; " : "");
        b.append(below(2) == 0 ? "sell " + (1 + below(12)) + ";" : "");
        b.append(below(2) == 0 ? "lose " + below(30) + ";" : "");
        b.append(below(2) == 0 ? "express " + (100 + below(201)) + ";" : "");
        return b.toString();
    }

    /** A text with one, two, three things put wrong: something left out, said twice, or put in. */
    private String spoilt(String text, int limit) {
        String[] bits = {";", " ", "\n", "5", "100", "301", "a", "sa", "aa", "ca", "da", "spot ", "agent x 5;", "cloth q 1 1;",
            "drum z 1 1;", "spot y;", "(", "=", "not ", " bleeds", ".", "A", "\t", "loads 2;", "no ", "(fast)", " and ", " or ",
            "is ", "stands 6", "age<", "abcdefgh", "0000", "sell 3;", "cloth v 1 2;cloth w 3 4;", "fast", ")"};
        StringBuilder b = new StringBuilder(text);
        for (int n = 1 + below(3); n > 0; n--) {
            int at = below(b.length() + 1);
            int to = Math.min(b.length(), at + 1 + below(below(3) == 0 ? 20 : 3));
            int how = below(4);
            if (how == 0) {
                b.delete(at, to);
            } else if (how == 1) {
                b.insert(at, b.substring(at, to));
            } else {
                b.insert(at, bits[below(bits.length)]);
            }
        }
        if (below(6) == 0) {
            int at = below(b.length() + 1);
            b.insert(at, " ".repeat(Math.max(0, limit - b.length() + below(12) - 4)));
        }
        return b.length() > 940 ? b.substring(0, 940) : b.toString();
    }

    private String cond(int depth) {
        StringBuilder b = new StringBuilder(one(depth));
        while (below(3) == 0) {
            b.append(below(2) == 0 ? " and " : " or ").append(one(depth));
        }
        return b.toString();
    }

    private String one(int depth) {
        String[] whats = {"age", "late", "price", "weight", "size", "counter", "load", "loaded"};
        int which = below(depth > 5 ? 6 : 9);
        switch (which) {
            case 0: return "is c" + (char) ('a' + below(3));
            case 1: return "stands " + below(6);
            case 2: return below(2) == 0 ? "fast" : "claimed";
            case 3: case 4: case 5:
                return whats[below(8)] + "<=>".charAt(below(3)) + below(below(3) == 0 ? 1000 : 8);
            case 6: case 7: return "no " + one(depth + 1);
            default: return "(" + cond(depth + 1) + ")";
        }
    }

    // ---- calls ----

    private void call(int i) {
        int which = below(100);
        if (which < 6) {
            texts(which);
        } else if (which < 16) {
            int kind = near(0, Math.max(0, 3 * x.count(2) - 1)) + 100 * below(2);
            int[] n = {near(1, below(2) == 0 ? 40 : 200), near(0, below(2) == 0 ? 1 : 9), near(0, below(2) == 0 ? 3 : 255),
                near(0, below(2) == 0 ? 2 : 39), rarely() ? near(x.count(6), 199) : x.count(6) + below(6)};
            due("ticket", x.ticket(kind, n[0], n[1], n[2], n[3], n[4]), y.ticket(kind, n[0], n[1], n[2], n[3], n[4]));
        } else if (which < 30) {
            int t = someTicket();
            int what = near(1, 5);
            int day = near(Math.max(0, x.count(6) - 3), x.count(6));
            due("news(" + t + ", " + what + ", " + day + ")", x.news(t, what, day), y.news(t, what, day));
        } else if (which < 44) {
            tellMore(which - 30);
        } else if (which < 56) {
            search(which - 44);
        } else {
            ask(which - 56);
        }
    }

    private void texts(int which) {
        if (which == 0 && below(4) == 0) {
            tellHouse(goodHouse());
        } else if (which == 1) {
            tellHouse(spoilt(goodHouse(), 900));
        } else if (which <= 3) {
            String text = cond(1);
            tellRule(text.length() > 300 ? "fast" : text);
        } else if (which == 4) {
            String text = cond(1);
            tellRule(spoilt(text.length() > 300 ? "fast" : text, 200));
        } else {
            due("feed", x.feed(0x01020304, -1, 0, 5, 0x7fffffff), y.feed(0x01020304, -1, 0, 5, 0x7fffffff));
            int n = near(0, x.count(9));
            due("end(" + n + ")", x.end(n), y.end(n));
        }
    }

    private void tellMore(int which) {
        int t = someTicket();
        int load = below(3) == 0 ? near(1, 99) : near(1, 4);
        int counter = below(3) == 0 ? near(0, 39) : near(0, 2);
        switch (which) {
            case 0: case 1: case 2:
                due("loaded(" + t + ", " + load + ")", x.loaded(t, load), y.loaded(t, load));
                break;
            case 3: case 4:
                due("claim(" + t + ")", x.claim(t), y.claim(t));
                break;
            case 5:
                int drum = near(0, Math.max(0, x.count(3) - 1));
                due("drum(" + load + ", " + drum + ")", x.drum(load, drum), y.drum(load, drum));
                break;
            case 6:
                int days = near(0, below(2) == 0 ? 3 : 30);
                int pence = near(0, 999);
                due("contract", x.contract(counter, days, pence), y.contract(counter, days, pence));
                break;
            case 7: case 8:
                int ax = below(2) == 0 ? near(0, 99) : 45 + below(10);
                int ay = below(2) == 0 ? near(0, 99) : 45 + below(10);
                due("place", x.place(counter, ax, ay), y.place(counter, ax, ay));
                break;
            case 9: case 10:
                int[] s = {near(0, below(4) == 0 ? 30000 : 300), near(0, below(4) == 0 ? 30000 : 20), near(0, 200)};
                due("solvent", x.solvent(s[0], s[1], s[2]), y.solvent(s[0], s[1], s[2]));
                break;
            case 11:
                int n = rarely() ? near(0, 199) : below(3);
                due("later(" + n + ")", x.later(n), y.later(n));
                break;
            case 12:
                int k = near(0, 1);
                due("image(" + k + ")", x.image(k), y.image(k));
                break;
            default:
                int r = near(0, 1);
                if (below(2) == 0) {
                    due("restore(" + r + ")", x.restore(r), y.restore(r));
                }
        }
    }

    private int[] someBytes(int most, int high) {
        int[] bytes = new int[rarely() ? below(12) : 1 + below(most)];
        for (int i = 0; i < bytes.length; i++) {
            bytes[i] = below(40) == 0 ? below(256) : below(Math.max(1, high));
        }
        return bytes;
    }

    private void search(int which) {
        switch (which) {
            case 0: case 1:
                tell(someBytes(5, x.count(4)));
                due("loads", x.loads(), y.loads());
                break;
            case 2:
                tell(someBytes(3, x.count(4)));
                due("patience", x.patience(), y.patience());
                break;
            case 3:
                tell(someBytes(5, x.count(4)));
                due("hurry", x.hurry(), y.hurry());
                break;
            case 4: case 5:
                tell(someCoats());
                due("found", x.found(), y.found());
                break;
            case 6: case 7:
                tell(someStain());
                int c = near(0, Math.max(0, x.count(2) - 1));
                due("best(" + c + ")", x.best(c), y.best(c));
                break;
            case 8:
                tell(someStain());
                int cloth = near(0, Math.max(0, x.count(2) - 1));
                int k = near(0, 6);
                due("out(" + cloth + ", " + k + ")", x.out(cloth, k), y.out(cloth, k));
                break;
            case 9:
                tell(someBytes(5, below(2) == 0 ? 6 : 40));
                due("round", x.round(), y.round());
                break;
            case 10:
                int of = near(0, Math.max(0, x.count(2) - 1));
                int heat = near(0, 9);
                due("recall(" + of + ", " + heat + ")", x.recall(of, heat), y.recall(of, heat));
                break;
            default:
                due("causes()", x.causes(), y.causes());
        }
    }

    private int[] someCoats() {
        int[] bytes = new int[6 * (1 + below(3)) + (rarely() ? 1 : 0)];
        for (int i = 0; i < bytes.length; i++) {
            int[] most = {Math.max(1, x.count(2)), 3, 2, 4, 11, 11};
            int at = i % 6;
            bytes[i] = at >= 4 && below(5) > 0 ? 10 : below(60) == 0 ? most[at] : below(most[at]);
        }
        return bytes;
    }

    private int[] someStain() {
        int[] bytes = new int[Math.max(0, x.count(0) + (rarely() ? below(3) - 1 : 0))];
        for (int i = rarely() ? 19 : 20; i > 0 && bytes.length > 0; i--) {
            bytes[below(bytes.length)]++;
        }
        return bytes;
    }

    private static long orThrown(java.util.function.LongSupplier asked) {
        try {
            return asked.getAsLong();
        } catch (NoSuchElementException e) {
            return -7777777;
        }
    }

    private void ask(int which) {
        int t = someTicket();
        int k = near(-1, 4);
        int day = below(3) == 0 ? near(0, 199) : near(Math.max(0, x.count(6) - 4), Math.min(199, x.count(6) + 4));
        int by = below(3) == 0 ? near(0, 199) : near(Math.max(0, x.count(6) - 4), Math.min(199, x.count(6) + 4));
        int counter = below(3) == 0 ? near(0, 39) : near(0, 2);
        switch (which) {
            case 0: case 1: case 2: {
                int what = near(0, 9);
                due("about(" + t + ", " + what + ")", orThrown(() -> x.about(t, what)), orThrown(() -> y.about(t, what)));
                break;
            }
            case 3: case 4: case 5: case 6: case 7:
                due("stands(" + t + ", " + day + ", " + by + ")", x.stands(t, day, by), y.stands(t, day, by));
                break;
            case 8: case 9: case 10: {
                int what = near(0, 3);
                due("open(" + what + ")", x.open(what), y.open(what));
                break;
            }
            case 11: case 12:
                due("twice(" + t + ")", x.twice(t), y.twice(t));
                due("twice(-1)", x.twice(-1), y.twice(-1));
                break;
            case 13: case 14: case 15:
                due("owed(" + counter + ")", x.owed(counter), y.owed(counter));
                break;
            case 16: case 17: case 18: {
                int what = near(0, 2);
                int later = below(2) == 0 ? near(0, 199) : day;
                due("unfetched(" + later + ", " + what + ")", x.unfetched(later, what), y.unfetched(later, what));
                break;
            }
            case 19: case 20:
                due("run(" + k + ")", x.run(k), y.run(k));
                break;
            case 21: case 22: case 23: case 24: case 25:
                due("meets(" + k + ")", x.meets(k), y.meets(k));
                break;
            case 26: case 27: case 28: {
                int cause = below(4) == 0 ? near(0, 239) : 100 * below(3) + below(5);
                due("possible(" + cause + ")", x.possible(cause), y.possible(cause));
                break;
            }
            case 29: case 30: {
                int d = near(0, Math.max(0, x.count(8) - 1));
                due("lost(" + d + ")", orThrown(() -> x.lost(d)), orThrown(() -> y.lost(d)));
                break;
            }
            case 31: case 32:
                due("broken()", x.broken(), y.broken());
                break;
            case 33:
                due("sure(" + k + ")", x.sure(k), y.sure(k));
                break;
            case 34:
                due("bestAt(" + k + ")", x.bestAt(k), y.bestAt(k));
                break;
            case 35:
                due("recalled(" + k + ")", x.recalled(k), y.recalled(k));
                break;
            case 36: case 37:
                due("cause(" + k + ")", x.cause(k), y.cause(k));
                break;
            case 38:
                due("roundAt(" + k + ")", x.roundAt(k), y.roundAt(k));
                break;
            case 39:
                due("fault()", x.fault(), y.fault());
                break;
            default: {
                int what = near(0, 9);
                due("count(" + what + ")", x.count(what), y.count(what));
            }
        }
    }
}
