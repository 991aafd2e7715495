import com.sun.management.ThreadMXBean;
import java.lang.management.ManagementFactory;

/** What calls make: all of a run live in one room, so a call that answers makes nothing. */
public final class RoomTest {
    private static final ThreadMXBean THREADS = (ThreadMXBean) ManagementFactory.getThreadMXBean();
    private static final long MOST_BYTES_OF_AN_OBJECT = 40_000;

    private RoomTest() {
    }

    public static void main(String[] args) {
        Check check = new Check();
        long here = Thread.currentThread().getId();
        PoleShop[] shops = new PoleShop[4];
        long worst = 0;
        long largest = 0;
        // the first turns load what the machine itself needs, the last one counts
        for (int turn = 0; turn < shops.length; turn++) {
            long before = THREADS.getThreadAllocatedBytes(here);
            shops[turn] = new PoleShop();
            long made = THREADS.getThreadAllocatedBytes(here);
            run(shops[turn]);
            long after = THREADS.getThreadAllocatedBytes(here);
            largest = made - before;
            worst = after - made;
        }
        check.holds("an object takes " + largest + " bytes", largest <= MOST_BYTES_OF_AN_OBJECT);
        check.holds("a run of 512 calls takes " + worst + " bytes", worst <= 1000);
        check.end("RoomTest");
    }

    /** 512 calls, most of them the dearest ones, to systems of order 8. */
    private static void run(PoleShop shop) {
        shop.system(4);
        for (int i = 0; i < 4; i++) {
            shop.set(0, PoleShop.SQUARE, i, (i + 1) % 4, i + 2);
            shop.pole(i);
            shop.pole(i + 10);
            shop.pole(i + 20);
            shop.pole(i + 30);
        }
        shop.set(0, PoleShop.COLUMN, 3, 0, 1);
        shop.set(0, PoleShop.ROW, 0, 0, 1);
        shop.join(0, 0, true);
        shop.joined(0);
        for (int made = 3; made < 12; made++) {
            shop.placed(1);
        }
        // 42 calls until here, and 16 times 29
        for (int turn = 0; turn < 16; turn++) {
            shop.clear();
            shop.input(turn);
            for (int i = 0; i < 16; i++) {
                shop.pole(i);
            }
            shop.polynomial(1, 0, true);
            shop.rank(1, true);
            shop.output(1, 40);
            shop.outputAnew(1, 40);
            shop.gain(1, 0);
            shop.gainAnew(1, 0);
            shop.observer(1, 0);
            shop.cost(1, 1, 1, 20);
            shop.costAnew(1, 1, 1, 20);
            shop.least(1);
            shop.leastAnew(1);
        }
    }
}
