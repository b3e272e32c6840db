import java.util.NoSuchElementException;
import java.util.Random;

/** Any calls with any arguments: none throws but about() and lost(), and like calls answer alike. */
public final class FuzzTest {
    private static final String[] HOUSES = {
        "spot a;spot b;agent p 9 a 20 b 3;agent q 4 b 7;cloth c 9 999 bleeds not p;cloth d 4 50;"
                + "drum g 9 4;drum h 3 0;loads 1;sell 3;lose 2;express 130;",
        "spot a;spot b;spot c;spot d;spot e;spot f;agent g 1 a 3;agent h 2 b 3;agent i 3 c 3;agent j 4 d 3;"
                + "agent k 5 e 3;agent l 6 f 20;cloth m 5 5;cloth n 6 6 bleeds;cloth o 7 7;cloth p 8 8;cloth q 9 9;"
                + "cloth r 5 10;cloth s 0 11;cloth t 1 12 bleeds not g;drum u 9 0;drum v 20 5;drum w 99 9;drum x 1 1;",
        "", "spot", "cloth c 5 5;",
    };
    private static final String[] RULES = {
        "fast", "no(age>3 or late<2)and price>5 or weight<9 and size=3", "is c or claimed and stands 1",
        "load=3 or loaded>1 and counter<2", "is", "fast and fast or no no claimed",
    };
    private static final int[] FAR = {Integer.MIN_VALUE, Integer.MAX_VALUE, -1, -2, -100, 100, 255, 256, 940, 1 << 16};

    private final Random random;
    private long sum = 0;

    private FuzzTest(int seed) {
        random = new Random(seed);
    }

    public static void main(String[] args) {
        for (int seed = 1; seed <= 1500; seed++) {
            String name = "seed " + seed;
            long first = answers(seed, name);
            Bench.due(name + " alike", answers(seed, name), first);
        }
        Bench.finish("FuzzTest");
    }

    private static long answers(int seed, String name) {
        FuzzTest fuzz = new FuzzTest(seed);
        CoatWorks x = new CoatWorks();
        boolean threw = false;
        try {
            if (seed % 8 != 0) {
                Bench.house(x, HOUSES[seed % 2]);
            }
            for (int i = 0; i < 500; i++) {
                fuzz.sum = fuzz.sum * 31 + fuzz.call(x, fuzz.random.nextInt(60));
            }
        } catch (RuntimeException e) {
            threw = true;
            e.printStackTrace(System.out);
        }
        Bench.due(name + " threw", threw, false);
        return fuzz.sum;
    }

    /** Mostly small numbers, now and then one that is far off. */
    private int any(int most) {
        return random.nextInt(12) == 0 ? FAR[random.nextInt(FAR.length)] : random.nextInt(most + 2) - 1;
    }

    private int tell(CoatWorks x, int most, int bytes) {
        int[] tape = new int[bytes];
        for (int i = 0; i < bytes; i++) {
            tape[i] = random.nextInt(30) == 0 ? random.nextInt(256) : random.nextInt(most);
        }
        Bench.feedBytes(x, tape);
        return bytes;
    }

    private long call(CoatWorks x, int which) {
        switch (which) {
            case 0: return x.feed(random.nextInt(), random.nextInt(), random.nextInt(), random.nextInt(), random.nextInt());
            case 1: return x.end(any(40)) ? 1 : 0;
            case 2: return random.nextInt(4) == 0 ? Bench.house(x, HOUSES[random.nextInt(HOUSES.length)]) : 0;
            case 3: return x.fault();
            case 4: case 5: return x.later(random.nextInt(4) == 0 ? any(20) : random.nextInt(2));
            case 6: case 7: case 8: case 9: case 10: case 11:
                return x.ticket(any(6) + 100 * random.nextInt(2), any(60), any(3), any(8), any(4), x.count(6) + any(9));
            case 12: return noted(x, any(40), any(10), true);
            case 13: case 14: case 15: case 16: case 17:
                return x.news(any(x.count(4)), any(5), x.count(6) - random.nextInt(3));
            case 18: return x.stands(any(x.count(4)), any(30), any(30));
            case 19: return x.open(any(4));
            case 20: tell(x, Math.max(1, x.count(4)), random.nextInt(4)); return x.loads();
            case 21: tell(x, Math.max(1, x.count(4)), random.nextInt(4)); return x.patience();
            case 22: case 23: return found(x);
            case 24: return x.sure(any(8));
            case 25: stain(x); return x.best(any(3));
            case 26: return x.bestAt(any(6));
            case 27: stain(x); return x.out(any(3), any(6));
            case 28: return x.twice(any(x.count(4)));
            case 29: return x.contract(any(4), any(30), any(999)) ? 1 : 0;
            case 30: return x.owed(any(4));
            case 31: tell(x, Math.max(1, x.count(4)), random.nextInt(3)); return x.hurry();
            case 32: case 33: return x.drum(any(5), any(4)) ? 1 : 0;
            case 34: return x.run(any(4));
            case 35: return x.recall(any(3), any(9));
            case 36: return x.recalled(any(5));
            case 37: case 38: return Bench.rule(x, RULES[random.nextInt(RULES.length)]);
            case 39: return x.meets(any(5));
            case 40: case 41: case 42: return x.loaded(any(x.count(4)), any(5)) ? 1 : 0;
            case 43: case 44: return x.claim(any(x.count(4)));
            case 45: return x.possible(any(4) + 100 * random.nextInt(3));
            case 46: case 47: return x.causes();
            case 48: return x.cause(any(4));
            case 49: return x.solvent(any(30000), any(200), any(30000));
            case 50: return noted(x, any(10), 0, false);
            case 51: return x.broken();
            case 52: return x.place(any(10), any(99), any(99)) ? 1 : 0;
            case 53: tell(x, 10, random.nextInt(6)); return x.round();
            case 54: return x.roundAt(any(9));
            case 55: return x.unfetched(any(60), any(2));
            case 56: return x.image(any(1)) ? 1 : 0;
            case 57: return random.nextInt(3) == 0 && x.restore(any(1)) ? 1 : 0;
            case 58: return raw(x);
            default: return x.count(any(9));
        }
    }

    private long noted(CoatWorks x, int a, int b, boolean about) {
        try {
            return about ? x.about(a, b) : x.lost(a);
        } catch (NoSuchElementException e) {
            return -77;
        }
    }

    private long found(CoatWorks x) {
        x.end(0);
        int coats = 1 + random.nextInt(3);
        int[] tape = new int[6 * coats];
        for (int i = 0; i < coats; i++) {
            int[] coat = {random.nextInt(3), random.nextInt(3), random.nextInt(3), random.nextInt(4), 10, 10};
            System.arraycopy(coat, 0, tape, 6 * i, 6);
        }
        Bench.feedBytes(x, tape);
        return x.found();
    }

    private void stain(CoatWorks x) {
        x.end(0);
        int spots = x.count(0);
        int[] tape = new int[spots];
        for (int i = 0; i < 20 && spots > 0; i++) {
            tape[random.nextInt(spots)]++;
        }
        Bench.feedBytes(x, tape);
    }

    /** A tape that is text, but mostly wrong: long and with every sign. */
    private long raw(CoatWorks x) {
        String[] parts = {"spot ", "agent ", "cloth ", "drum ", ";", " a", " b", "c ", " 5", "12 ", "not ", "no ", "(", ")",
            "fast", " and ", " or ", "age", "<", "=", "loads ", "bleeds", "\n", ".", "is ", "stands ", "0", "999"};
        StringBuilder text = new StringBuilder();
        int many = random.nextInt(3) == 0 ? 400 : random.nextInt(12);
        for (int i = 0; i < many && text.length() < 900; i++) {
            text.append(parts[random.nextInt(parts.length)]);
        }
        x.end(0);
        return random.nextBoolean() ? Bench.house(x, text.toString()) : Bench.rule(x, text.toString());
    }
}
