import java.lang.management.ManagementFactory;

/** 512 of the dearest calls end, and calls make no objects: all calls of a run share one small room. */
public final class RoomTest {
    private static final Due DUE = new Due();

    /** Six ports, all ways, all goods, all events: every plan of three trips is one that can be. */
    private static StarTrade crowded() {
        StarTrade x = new StarTrade();
        for (int p = 0; p < 6; p++) {
            x.port();
            for (int g = 0; g < 3; g++) {
                x.set(p, g, 0, 100 + 40 * ((p + g) % 3));
                x.set(p, g, 1, 5);
                x.set(p, g, 2, 4 + (p + g) % 3);
                x.set(p, g, 3, 100);
                x.set(p, g, 4, 100);
            }
            for (int q = 0; q < p; q++) {
                x.way(p, q, 9);
            }
        }
        for (int e = 0; e < 20; e++) {
            x.event(e + 1, e % 6, e % 3, 10 - e % 3);
        }
        x.ship(0, 20, 100000);
        return x;
    }

    private static long allocated() {
        return ((com.sun.management.ThreadMXBean) ManagementFactory.getThreadMXBean())
            .getThreadAllocatedBytes(Thread.currentThread().getId());
    }

    private static int callAll(StarTrade x) {
        int sum = x.plan(0, 1) + x.plan(0, 2) + x.plan(0, 3) + x.planned(0, 0) + x.ring(20, 0) + x.ring(20, 12);
        sum += x.starves(0, 0, 200) + x.buy(0, 0, 20) + x.sell(0, 0, 20) + x.go(0, 1) + x.go(0, 0) + x.tick(1);
        sum += x.set(0, 0, 1, 5) + x.about(0, 0, 5) + x.tax(0, 1) + x.shut(5, false) + x.way(0, 1, 9) + x.ofPort(0, 4);
        return sum + x.event(x.told(2), 0, 0, 1) + x.ship(0, 21, 1) + x.ofShip(0, 3) + x.fuel(1) + x.told(4) + x.port();
    }

    public static void main(String[] args) {
        callAll(crowded());
        StarTrade x = crowded();
        allocated();
        long before = allocated();
        for (int i = 0; i < 20; i++) {
            callAll(x);
        }
        long bytes = allocated() - before;
        DUE.dueTrue("calls made " + bytes + " bytes of objects", bytes < 4096);
        StarTrade y = crowded();
        int first = y.plan(0, 3);
        DUE.dueTrue("there is a plan", first > 0);
        for (int i = 1; i < 400; i++) {
            DUE.due("plan again", y.plan(0, 3), first);
        }
        DUE.end();
    }
}
