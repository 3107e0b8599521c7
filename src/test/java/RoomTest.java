import java.lang.management.ManagementFactory;

/** A run of calls makes no objects: all room is made with the object, and that is little. */
public final class RoomTest {
    private static final long MOST_BYTES_OF_ONE = 200_000;
    private static final com.sun.management.ThreadMXBean THREADS =
            (com.sun.management.ThreadMXBean) ManagementFactory.getThreadMXBean();

    public static void main(String[] args) {
        long sum = 0;
        for (int i = 0; i < 3; i++) {
            sum += calls(new StoneRiver());
        }
        long start = bytes();
        StoneRiver x = new StoneRiver();
        long made = bytes();
        sum += calls(x);
        long called = bytes();
        System.out.println("an object is " + (made - start) + " bytes, its calls " + (called - made) + " (" + sum + ")");
        // asking for the bytes may itself take a few
        if (made - start > MOST_BYTES_OF_ONE || called - made > 1000) {
            System.exit(1);
        }
    }

    private static long bytes() {
        return THREADS.getThreadAllocatedBytes(Thread.currentThread().getId());
    }

    /** Every method, at its dearest. */
    private static long calls(StoneRiver x) {
        return valley(x) + ridges(x) + stands(x) + lakes(x) + texts(x);
    }

    private static long valley(StoneRiver x) {
        long sum = 0;
        for (int row = 0; row < 8; row++) {
            sum += x.slope(0, row, 90 - row, 1) + x.slope(1, row, 9, -9) + x.slope(2, row, 9 + row, 1);
        }
        for (int i = 0; i < 10; i++) {
            sum += x.surface(0, i, i + 1) + x.flow(0, i) + x.cliff(i, 1) + x.boulder(63 - i, 1) + x.scratch(i, i);
        }
        for (int i = 0; i < 10; i++) {
            sum += x.fits(i) + x.steps(i, i) + x.home(i) + x.upstream(i) + x.put(0, i) + x.may(i) + x.laid(i - 1);
        }
        return sum;
    }

    private static long ridges(StoneRiver x) {
        long sum = 0;
        for (int i = 0; i < 8; i++) {
            sum += x.ridge() + x.fact(i % 2, i % 5, i, i == 0 ? 1 : 7, 900);
        }
        sum += x.core() + x.sure(0, 1) + x.fewest();
        for (int i = 0; i < 8; i++) {
            sum += x.fact(i % 2, 3, i, 1, 0) + x.fact(i % 2, 4, i, 2, 0) + x.age(i, 255, 0);
        }
        return sum + x.fewest() + x.sure(1, 2) + x.core() + x.parted();
    }

    private static long stands(StoneRiver x) {
        long sum = x.put(1, 20);
        for (int i = 0; i < 10; i++) {
            sum += x.sign(i / 5, 20 - i, 0, 39) + x.stand(-1) + x.stand(i);
        }
        return sum;
    }

    private static long lakes(StoneRiver x) {
        long sum = x.put(2, 1);
        for (int i = 0; i < 20; i++) {
            sum += x.area(i, 999) + x.zone(i, i) + x.ice(i, i) + x.warm(i, i, 1);
            sum += x.lake(i, 0, 0) + x.lake(i, 0, 1) + x.shore(i, 0, 3, 1);
        }
        return sum;
    }

    private static long texts(StoneRiver x) {
        long sum = x.image(0) + x.image(1);
        for (int i = 0; i < 5; i++) {
            for (int j = 0; j < 30; j++) {
                sum += x.type(0x72696467653b2020L, 8);
            }
            sum += x.fault() + x.read() + x.clear() + x.from(i % 2) + x.digest() + x.count(i);
        }
        return sum + x.type(0x5a, 1) + x.read() + x.fault();
    }
}
