import java.util.ArrayList;
import java.util.List;

/**
 * What the boundary tests share: worlds to begin from, and a look at all that a world answers from there on.
 * A world and a look at it stay below the 512 calls that an object is good for.
 */
final class Edge {
    static final int UNKNOWN = -1, OUTSIDE = -2, STATE = -3, FULL = -4, NO = -5, NONE = -6, LOST = -10000000;
    static final int MIN = Integer.MIN_VALUE, MAX = Integer.MAX_VALUE;

    interface World {
        StarTrade make();
    }

    interface Call {
        int on(StarTrade x);
    }

    interface CallOf {
        int on(StarTrade x, int v);
    }

    private final Due due = new Due();
    private String sentence = "";

    /** The document's words that the answers from here on are due by. */
    void says(String words) {
        sentence = words;
    }

    void due(String call, int got, int want) {
        due.due("\"" + sentence + "\": " + call, got, want);
    }

    /** The call answers so, and behind it the world answers all that it would have answered without the call. */
    void stays(String call, World world, Call made, int want) {
        StarTrade x = world.make();
        due(call, made.on(x), want);
        int[] with = look(x);
        int[] without = look(world.make());
        due(call + ": how many answers behind it", with.length, without.length);
        for (int i = 0; i < Math.min(with.length, without.length); i++) {
            due(call + " changed something: answer " + i + " behind it", with[i], without[i]);
        }
    }

    void refused(String call, World world, Call made, int refusal) {
        stays(call + " is refused", world, made, refusal);
    }

    /** From the least to the most is taken and then found so; one beyond on either side, and far beyond, is refused. */
    void range(String call, World world, CallOf made, Call found, int least, int most, int refusal) {
        for (int v : new int[] {least, most, least + 1, most - 1}) {
            StarTrade x = world.make();
            due(call + " " + v + " is taken", made.on(x, v) >= 0 ? 1 : 0, 1);
            due(call + " " + v + " is found", found.on(x), v);
        }
        outsideOf(call, world, made, least, most, refusal);
    }

    void outsideOf(String call, World world, CallOf made, int least, int most, int refusal) {
        for (int v : new int[] {least - 1, most + 1, MIN, MAX, MIN + least, MAX - most}) {
            refused(call + " " + v, world, x -> made.on(x, v), refusal);
        }
    }

    void end() {
        due.end();
    }

    static StarTrade ports(int n) {
        StarTrade x = new StarTrade();
        for (int i = 0; i < n; i++) {
            x.port();
        }
        return x;
    }

    /** Three ports and two ships in the midst of things, so that a refused call has much to spoil. NOW is 2. */
    static StarTrade busy() {
        StarTrade x = ports(3);
        x.way(0, 1, 2);
        x.way(1, 2, 3);
        x.fuel(2);
        x.set(0, 0, 0, 20);
        x.set(0, 0, 1, 3);
        x.set(0, 0, 2, 1);
        x.set(1, 1, 0, 15);
        x.set(1, 1, 3, 20);
        x.set(1, 1, 4, 12);
        x.set(2, 2, 0, 9);
        x.set(2, 2, 2, 6);
        x.tax(0, 1);
        x.tax(1, 2);
        x.ship(0, 5, 60);
        x.ship(1, 8, 300);
        x.event(1, 0, 0, 5);
        x.event(4, 2, 2, 7);
        x.event(3, 0, 1, 4);
        x.event(998, 1, 2, 5);
        x.buy(0, 0, 2);
        x.buy(1, 1, 3);
        x.tick(2);
        x.sell(0, 0, 1);
        x.plan(0, 2);
        return x;
    }

    static StarTrade busyAt(int now) {
        StarTrade x = busy();
        passTo(x, now);
        return x;
    }

    static void passTo(StarTrade x, int now) {
        for (int at = x.told(2); at < now; at = x.told(2)) {
            x.tick(Math.min(200, now - at));
        }
    }

    /** All that can be asked, then what comes of it tick by tick, and last what only a change tells. */
    static int[] look(StarTrade x) {
        List<Integer> seen = new ArrayList<>();
        int ports = x.told(0);
        int ships = x.told(1);
        for (int what = 0; what < 12; what++) {
            seen.add(x.told(what));
        }
        for (int i = 0; i < 6; i++) {
            seen.add(x.planned(i / 2, i % 2));
        }
        lookAtPorts(x, ports, seen);
        for (int i = 0; i < 6 * ships; i++) {
            seen.add(x.ofShip(i / 6, i % 6 < 3 ? i % 6 : i % 6 + 7));
        }
        for (int what : new int[] {0, 1, 2, 10, 11, 12, 13, 14, 15}) {
            seen.add(x.ring(7, what));
        }
        for (int s = 0; s < ships; s++) {
            seen.add(x.plan(s, 2));
            for (int i = 0; i < 4; i++) {
                seen.add(x.planned(i / 2, i % 2));
            }
        }
        for (int i = 0; i < 3; i++) {
            seen.add(x.tick(1));
            lookAtStocks(x, ports, seen);
        }
        lookByChange(x, ports, seen);
        return seen.stream().mapToInt(Integer::intValue).toArray();
    }

    private static void lookAtPorts(StarTrade x, int ports, List<Integer> seen) {
        for (int p = 0; p < ports; p++) {
            for (int what = 0; what < 5; what++) {
                seen.add(x.ofPort(p, what));
            }
            for (int i = 0; i < 21; i++) {
                seen.add(x.about(p, i / 7, i % 7));
            }
            for (int g = 0; g < 3; g++) {
                seen.add(x.starves(p, g, 200));
            }
        }
    }

    private static void lookAtStocks(StarTrade x, int ports, List<Integer> seen) {
        for (int i = 0; i < 3 * ports; i++) {
            seen.add(x.about(i / 3, i % 3, 0));
        }
        seen.add(x.told(3));
        seen.add(x.told(7));
    }

    private static void lookByChange(StarTrade x, int ports, List<Integer> seen) {
        for (int p = 0; p < ports; p++) {
            for (int q = 0; q < p; q++) {
                seen.add(x.way(p, q, 0));
            }
        }
        seen.add(x.fuel(0));
        seen.add(x.port());
        seen.add(x.ship(0, 1, 0));
    }
}
