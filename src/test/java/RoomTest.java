import java.lang.management.ManagementFactory;

/** All calls of a run live in one room: an object makes its rows once, and calls make nothing more. */
public final class RoomTest {
    private static final long MOST_BYTES_AN_OBJECT = 200_000;
    private static final long MOST_BYTES_ALL_CALLS = 20_000;

    public static void main(String[] args) {
        com.sun.management.ThreadMXBean room = (com.sun.management.ThreadMXBean) ManagementFactory.getThreadMXBean();
        long id = Thread.currentThread().getId();
        use(filled());
        long start = room.getThreadAllocatedBytes(id);
        CoatWorks x = new CoatWorks();
        long made = room.getThreadAllocatedBytes(id) - start;
        Bench.due("bytes of an object: " + made, made < MOST_BYTES_AN_OBJECT, true);
        x = filled();
        start = room.getThreadAllocatedBytes(id);
        use(x);
        long used = room.getThreadAllocatedBytes(id) - start;
        Bench.due("bytes of the dearest calls: " + used, used < MOST_BYTES_ALL_CALLS, true);
        Bench.finish("RoomTest");
    }

    private static CoatWorks filled() {
        CoatWorks x = Bench.works("spot a;spot b;spot c;spot d;spot e;spot f;agent g 1 a 3;agent h 2 b 3;agent i 3 c 3;"
                + "agent j 4 d 3;agent k 5 e 3;agent l 6 f 20;cloth m 5 5;drum u 9 0;");
        for (int t = 0; t < 40; t++) {
            x.ticket(0, 20, 1, 1, t, 9);
            if (t >= 12 && t < 24) {
                x.news(t, 1, 0);
                x.claim(t);
            }
        }
        Bench.rule(x, "no(fast and claimed or loaded>2 and no size=3)");
        x.image(0);
        x.image(1);
        return x;
    }

    /** 470 calls, whose tapes are fed without any arrays. */
    private static void use(CoatWorks x) {
        for (int i = 0; i < 30; i++) {
            x.feed(0x00010203, 0x04050607, 0x08090000, 0, 0);
            x.end(10);
            x.loads();
            x.feed(0x00010203, 0x04050607, 0x08090000, 0, 0);
            x.end(10);
            x.patience();
            x.feed(0x00010203, 0x04050607, 0x08090000, 0, 0);
            x.end(9);
            x.round();
            x.feed(0x00000100, 0x0a0a0000, 0x01000a0a, 0x00000100, 0x0a0a0000);
            x.end(18);
            x.found();
            x.causes();
            x.meets(-1);
            x.image(i % 2);
        }
        for (int i = 0; i < 10; i++) {
            x.feed(0x05050501, 0x01030000, 0, 0, 0);
            x.end(6);
            x.best(0);
            x.restore(i % 2);
            x.unfetched(99, 0);
        }
    }
}
