/** Each sentence of the document that names a boundary case of rings, plans and hunger foretold: promises 18 to 21. */
public final class SearchBoundaryTest {
    private static final int UNKNOWN = Edge.UNKNOWN, OUTSIDE = Edge.OUTSIDE, NO = Edge.NO, NONE = Edge.NONE;
    private static final int LOST = Edge.LOST, MIN = Edge.MIN, MAX = Edge.MAX;
    private static final int STOCK = 0, MAKE = 1, USE = 2, BASE = 3;
    private static final Edge EDGE = new Edge();

    private static void due(String call, int got, int want) {
        EDGE.due(call, got, want);
    }

    /** Gains, LENGTHS and then the PORTS of the ring, and NONE behind its last. */
    private static void dueRing(String what, StarTrade x, int hold, int gains, int lengths, int... ports) {
        due(what + ": gains", x.ring(hold, 0), gains);
        due(what + ": lengths", x.ring(hold, 1), lengths);
        due(what + ": how many", x.ring(hold, 2), ports.length);
        for (int i = 0; i < 6; i++) {
            due(what + ": port " + i, x.ring(hold, 10 + i), i < ports.length ? ports[i] : NONE);
        }
    }

    // ---- THE RING

    /** Port 0 has ten of good 0 and sells it at 10, port 1 has none and takes it at 20; no FUEL. */
    private static StarTrade pair(int length) {
        StarTrade x = Edge.ports(2);
        x.way(0, 1, length);
        x.set(0, 0, STOCK, 10);
        x.fuel(0);
        return x;
    }

    private static void holdOfARing() {
        EDGE.says("for a HOLD of h (1 to 20); 18: OUTSIDE (LOST less 2)");
        dueRing("least hold", pair(1), 1, 10, 2, 0, 1);
        dueRing("most hold", pair(1), 20, 200, 2, 0, 1);
        for (int what : new int[] {0, 1, 2, 10, 11, 12}) {
            EDGE.outsideOf("what " + what + ", hold", Edge::busy, (x, hold) -> x.ring(hold, what), 1, 20, LOST - 2);
        }
    }

    private static void whatOfARing() {
        EDGE.says("18: 0 all gains, 1 all LENGTHS, 2 how many PORTS, 10 and i: PORT i of it. OUTSIDE (LOST less 2)");
        int[][] rows = {{0, 30}, {1, 8}, {2, 2}, {10, 0}, {11, 1}};
        for (int[] row : rows) {
            EDGE.stays("what " + row[0], () -> pair(4), y -> y.ring(3, row[0]), row[1]);
        }
        for (int what : new int[] {-1, 3, 4, 5, 6, 7, 8, 9, MIN, MIN + 10, -10}) {
            EDGE.refused("what " + what, () -> pair(4), y -> y.ring(3, what), LOST - 2);
            EDGE.refused("what " + what, Edge::busy, y -> y.ring(3, what), LOST - 2);
        }
    }

    private static void ringHasNotSoMany() {
        EDGE.says("18: NONE: it has not so many");
        for (int i : new int[] {2, 3, 4, 5, 6, 100, MAX - 10}) {
            EDGE.stays("port " + i + " of two", () -> pair(1), x -> x.ring(1, 10 + i), NONE);
        }
        StarTrade x = round(3);
        due("the last of three", x.ring(1, 12), 1);
        due("beyond three", x.ring(1, 13), NONE);
        StarTrade y = round(6);
        due("the last of six", y.ring(1, 15), 1);
        due("beyond six", y.ring(1, 16), NONE);
    }

    /** Ports in a round, each with ways to its two neighbours alone; goods pay more to the next lower port. */
    private static StarTrade round(int n) {
        StarTrade x = Edge.ports(n);
        int[] stocks = {15, 5, 0};
        for (int i = 0; i < n; i++) {
            x.way(i, (i + 1) % n, 1);
            for (int g = 0; g < 3; g++) {
                x.set(i, g, STOCK, stocks[(i + g) % 3]);
            }
        }
        x.fuel(0);
        return x;
    }

    private static void ringOfAllPorts() {
        EDGE.says("A ring of 2 and more PORTS");
        // to the next lower port one good rises from 5 to 20, to the next higher one from 5 to 15
        dueRing("three", round(3), 1, 45, 3, 0, 2, 1);
        dueRing("all six", round(6), 1, 90, 6, 0, 5, 4, 3, 2, 1);
        dueRing("two", pair(1), 1, 10, 2, 0, 1);
    }

    private static void noRing() {
        EDGE.says("18: NO (LOST less 5): there is none");
        for (int n = 0; n <= 6; n++) {
            int ports = n;
            for (int what : new int[] {0, 1, 2, 10, 15, 16}) {
                EDGE.refused(ports + " ports and no way", () -> Edge.ports(ports), x -> x.ring(1, what), LOST - 5);
            }
        }
        EDGE.refused("outside ahead of none", () -> Edge.ports(2), x -> x.ring(0, 0), LOST - 2);
        EDGE.refused("outside ahead of none", () -> Edge.ports(2), x -> x.ring(21, 0), LOST - 2);
        EDGE.refused("outside ahead of none", () -> Edge.ports(2), x -> x.ring(1, 3), LOST - 2);
        EDGE.refused("outside ahead of none", StarTrade::new, x -> x.ring(1, -1), LOST - 2);
        StarTrade y = pair(9);
        y.way(1, 0, 0);
        due("the way is gone", y.ring(1, 0), LOST - 5);
        y.way(1, 0, 9);
        due("it is there again", y.ring(1, 0), 10);
    }

    private static void ringOfOpenPorts() {
        EDGE.says("PORTS that are not SHUT");
        for (int p = 0; p < 2; p++) {
            int shut = p;
            EDGE.refused("one of two is shut", () -> {
                StarTrade x = pair(1);
                x.shut(shut, true);
                return x;
            }, x -> x.ring(1, 0), LOST - 5);
        }
        StarTrade y = round(6);
        y.shut(3, true);
        // without port 3 there is no way round: two neighbours, 10 and 15
        dueRing("one of six is shut", y, 1, 25, 2, 0, 1);
        y.shut(0, true);
        dueRing("the first is shut, too", y, 1, 25, 2, 1, 2);
        y.shut(1, true);
        y.shut(5, true);
        due("no two that are open lie together", y.ring(1, 0), LOST - 5);
        y.shut(5, false);
        dueRing("the last two are open", y, 1, 25, 2, 4, 5);
    }

    private static void eachPortOnce() {
        EDGE.says("each once, by WAYS");
        StarTrade x = Edge.ports(4);
        x.fuel(0);
        for (int p = 1; p < 4; p++) {
            x.way(0, p, 1);
            x.set(p, 0, STOCK, 10 + p);
        }
        // good 0 sells at 20 in port 0 and costs 9, 8, 7 in the others, which no way joins
        dueRing("a star", x, 1, 13, 2, 0, 3);
        x.way(1, 2, 1);
        dueRing("two of its points are joined", x, 1, 13, 2, 0, 3);
        x.way(0, 3, 0);
        dueRing("without the best point", x, 1, 12, 2, 0, 2);
    }

    private static void gainOfALegIsNotLessThanNought() {
        EDGE.says("a leg gains h times the greatest of 0 and PRICE less TAX less PRICE less TAX; less FUEL times LENGTH");
        int[][] rows = {{0, 0, 10}, {4, 5, 1}, {5, 5, 0}, {5, 6, 0}, {20, 20, 0}};
        for (int[] row : rows) {
            StarTrade x = pair(2);
            x.tax(0, row[0]);
            x.tax(1, row[1]);
            dueRing("taxes " + row[0] + " " + row[1], x, 7, 7 * row[2], 4, 0, 1);
            x.fuel(3);
            dueRing("taxes and fuel", x, 7, 7 * row[2] - 12, 4, 0, 1);
        }
        StarTrade y = pair(9);
        y.set(0, 0, STOCK, 0);
        y.fuel(20);
        dueRing("nothing to gain, the most fuel", y, 20, -360, 18, 0, 1);
        y.set(0, 2, BASE, 100);
        y.set(1, 2, STOCK, 1000);
        y.fuel(0);
        dueRing("the greatest gain", y, 20, 20 * 199, 18, 0, 1);
    }

    private static void greatestQuotientExactly() {
        EDGE.says("The one with the greatest such quotient (exactly)");
        StarTrade x = Edge.ports(4);
        x.fuel(0);
        x.way(0, 1, 5);
        x.way(2, 3, 7);
        x.set(0, 0, STOCK, 7);
        x.set(2, 0, STOCK, 10);
        dueRing("7/10 against 10/14", x, 1, 10, 14, 2, 3);
        x.set(0, 0, STOCK, 8);
        dueRing("8/10 against 10/14", x, 1, 8, 10, 0, 1);
        x.fuel(1);
        dueRing("-2/10 against -4/14", x, 1, -2, 10, 0, 1);
        x.fuel(20);
        dueRing("-192/10 against -270/14", x, 1, -192, 10, 0, 1);
        x.set(2, 0, STOCK, 12);
        dueRing("-192/10 against -268/14", x, 1, -268, 14, 2, 3);
        StarTrade y = round(3);
        y.port();
        y.port();
        y.way(3, 4, 1);
        y.set(2, 0, STOCK, 2);
        y.set(3, 0, STOCK, 15);
        y.set(4, 0, STOCK, 1);
        y.set(4, 1, STOCK, 15);
        dueRing("43/3 against 29/2, the least there may be between two", y, 1, 29, 2, 3, 4);
        y.set(4, 0, STOCK, 2);
        dueRing("43/3 against 28/2", y, 1, 43, 3, 0, 2, 1);
    }

    private static void ofSeveralRingsTheFewestPorts() {
        EDGE.says("of several the one with the fewest PORTS");
        StarTrade x = round(3);
        x.port();
        x.port();
        x.way(3, 4, 1);
        x.set(3, 0, STOCK, 15);
        x.set(4, 1, STOCK, 15);
        dueRing("30/2 and 45/3", x, 1, 30, 2, 3, 4);
        x.set(4, 1, STOCK, 14);
        dueRing("29/2 and 45/3", x, 1, 45, 3, 0, 2, 1);
        StarTrade y = Edge.ports(6);
        for (int i = 0; i < 36; i++) {
            y.way(i / 6, i % 6, 2);
        }
        dueRing("nothing gains: all quotients are less by FUEL", y, 20, -4, 4, 0, 1);
    }

    private static void thenTheFirstByNumbers() {
        EDGE.says("then the first by numbers, told from its least PORT on");
        StarTrade x = Edge.ports(6);
        x.way(4, 5, 1);
        x.way(3, 5, 1);
        dueRing("3 5 ahead of 4 5", x, 1, -2, 2, 3, 5);
        x.way(3, 4, 1);
        dueRing("3 4 ahead of 3 5", x, 1, -2, 2, 3, 4);
        x.way(2, 5, 1);
        dueRing("2 5 ahead of 3 4", x, 1, -2, 2, 2, 5);
        StarTrade y = round(3);
        y.port();
        // port 3 is as port 2 is: 0 2 1 and 0 3 1 pay the same
        y.way(0, 3, 1);
        y.way(1, 3, 1);
        y.set(3, 0, STOCK, 0);
        y.set(3, 1, STOCK, 15);
        y.set(3, 2, STOCK, 5);
        dueRing("0 2 1 ahead of 0 3 1", y, 1, 45, 3, 0, 2, 1);
        y.shut(2, true);
        dueRing("0 3 1 alone", y, 1, 45, 3, 0, 3, 1);
    }

    private static void toldFromItsLeastPort() {
        EDGE.says("told from its least PORT on");
        StarTrade x = round(3);
        int[] stocks = {15, 5, 0};
        for (int i = 0; i < 3; i++) {
            x.port();
        }
        for (int i = 0; i < 3; i++) {
            x.way(3 + i, 3 + (i + 1) % 3, 1);
            for (int g = 0; g < 3; g++) {
                x.set(3 + i, g, STOCK, stocks[(i + g) % 3]);
            }
        }
        dueRing("0 2 1 ahead of 3 5 4", x, 1, 45, 3, 0, 2, 1);
        x.shut(0, true);
        dueRing("3 5 4", x, 1, 45, 3, 3, 5, 4);
    }

    // ---- A PLAN

    private static void duePlan(String what, StarTrade x, int k, int coins, int... trips) {
        due(what + ": coins", x.plan(0, k), coins);
        for (int i = 0; i < 6; i++) {
            due(what + ": trip " + i / 2 + " " + i % 2, x.planned(i / 2, i % 2), i < 2 * k ? trips[i] : NONE);
        }
    }

    /** Two ports; in port 0 twenty of good 0, which costs 1 1 2 3 there; in port 1 none, it sells at 19 18 17 16. */
    private static StarTrade trader(int length, int fuel, int hold, int coins) {
        StarTrade x = Edge.ports(2);
        x.way(0, 1, length);
        x.fuel(fuel);
        x.set(0, 0, STOCK, 20);
        x.ship(0, hold, coins);
        return x;
    }

    private static void tripsOfAPlan() {
        EDGE.says("A PLAN of k TRIPS (1 to 3); 19: OUTSIDE: k");
        due("one", trader(1, 1, 2, 50).plan(0, 1), 50 - 2 - 1 + 37);
        due("two", trader(1, 1, 2, 50).plan(0, 2), 50 - 2 - 1 + 37 - 1);
        due("three", trader(1, 1, 2, 50).plan(0, 3), 50 - 2 - 1 + 37 - 1 - 5 - 1 + 33);
        EDGE.outsideOf("k", Edge::busy, (x, k) -> x.plan(0, k), 1, 3, OUTSIDE);
        EDGE.outsideOf("k", () -> trader(1, 1, 2, 50), (x, k) -> x.plan(0, k), 1, 3, OUTSIDE);
    }

    private static void refusalsOfPlanInOrder() {
        EDGE.says("19: UNKNOWN; OUTSIDE: k; NO: there is none");
        Edge.World shut = () -> {
            StarTrade x = Edge.busy();
            x.shut(0, true);
            return x;
        };
        EDGE.refused("all three", shut, x -> x.plan(2, 0), UNKNOWN);
        EDGE.refused("unknown", shut, x -> x.plan(-1, 1), UNKNOWN);
        EDGE.refused("unknown and outside", Edge::busy, x -> x.plan(2, 4), UNKNOWN);
        EDGE.refused("outside ahead of none", shut, x -> x.plan(0, 0), OUTSIDE);
        EDGE.refused("outside ahead of none", shut, x -> x.plan(0, 4), OUTSIDE);
        EDGE.refused("none", shut, x -> x.plan(0, 1), NO);
    }

    private static void allStaysBehindAPlan() {
        EDGE.says("19: (All stays.)");
        // The world's latest plan is this one already, so what planned() tells stays, too.
        int coins = Edge.busy().plan(0, 2);
        due("there is one", coins > 0 ? 1 : 0, 1);
        EDGE.stays("plan", Edge::busy, x -> x.plan(0, 2), coins);
    }

    private static void noPlanWithoutAWay() {
        EDGE.says("A TRIP that can not be (no WAY) is none; a PLAN has all k");
        Edge.World apart = () -> {
            StarTrade x = trader(1, 1, 2, 50);
            x.way(0, 1, 0);
            return x;
        };
        for (int k = 1; k <= 3; k++) {
            int trips = k;
            EDGE.refused("no way", apart, x -> x.plan(0, trips), NO);
            EDGE.refused("one port", () -> {
                StarTrade x = Edge.ports(1);
                x.ship(0, 1, 9);
                return x;
            }, x -> x.plan(0, trips), NO);
        }
    }

    private static void noPlanOfAShutPort() {
        EDGE.says("A TRIP that can not be (SHUT) is none");
        for (int p = 0; p < 2; p++) {
            int shut = p;
            for (int k = 1; k <= 3; k++) {
                int trips = k;
                EDGE.refused("shut " + shut, () -> {
                    StarTrade x = trader(1, 1, 2, 50);
                    x.shut(shut, true);
                    return x;
                }, x -> x.plan(0, trips), NO);
            }
        }
        StarTrade x = trader(1, 0, 2, 50);
        x.port();
        x.way(1, 2, 1);
        x.set(1, 1, STOCK, 20);
        x.set(0, 1, STOCK, 20);
        // good 1 costs 1 1 in port 1 and sells at 19 18 in port 2, at 1 in port 0
        duePlan("on to port 2", x, 2, 48 + 37 - 2 + 37, 1, 0, 2, 1);
        x.shut(2, true);
        duePlan("port 2 is shut: back", x, 2, 48 + 37, 1, 0, 0, 1);
    }

    private static void planThatCoinsPay() {
        EDGE.says("A TRIP that can not be (FUEL beyond COINS) is none");
        Edge.World poor = () -> trader(3, 20, 2, 59);
        EDGE.refused("one too few", poor, x -> x.plan(0, 1), NO);
        EDGE.refused("none", () -> trader(3, 1, 2, 0), x -> x.plan(0, 1), NO);
        duePlan("just enough, and nothing for goods", trader(3, 20, 2, 60), 1, 0, 1, 1);
        EDGE.refused("not for a second trip", () -> trader(3, 20, 2, 60), x -> x.plan(0, 2), NO);
        duePlan("no fuel, no coins", trader(3, 0, 2, 0), 3, 0, 1, 0, 0, 0, 1, 0);
        // one is sold at 19; of that one the second trip pays its fuel, if it is not bought again
        duePlan("a second trip is paid of what was sold", trader(1, 18, 1, 19), 2, 1, 1, 0, 0, 1);
        EDGE.refused("one too few, too", () -> trader(1, 19, 1, 19), x -> x.plan(0, 2), NO);
        duePlan("just enough, too", trader(1, 19, 1, 20), 2, 0, 1, 0, 0, 1);
    }

    private static void planUpTo999() {
        EDGE.says("A TRIP that can not be (TICKS beyond 999) is none");
        for (int k = 1; k <= 3; k++) {
            int trips = k;
            due("just to 999", traderAt(999 - 9 * trips).plan(0, trips) > 0 ? 1 : 0, 1);
            EDGE.refused("one beyond", () -> traderAt(1000 - 9 * trips), x -> x.plan(0, trips), NO);
            EDGE.refused("none is left", () -> traderAt(999), x -> x.plan(0, trips), NO);
        }
        StarTrade x = traderAt(995);
        due("too far", x.plan(0, 1), NO);
        x.port();
        x.way(0, 2, 4);
        duePlan("another is near enough", x, 1, 50 - 2 - 4 + 37, 2, 0);
    }

    private static StarTrade traderAt(int now) {
        StarTrade x = trader(9, 1, 2, 50);
        Edge.passTo(x, now);
        return x;
    }

    private static void fuelOfWhatIsLeft() {
        EDGE.says("as many as can be are bought (its FUEL is paid of what is left then)");
        // with a hold of 2: 1 1 are paid, 10 for fuel
        duePlan("just enough is left", trader(2, 5, 2, 12), 1, 37, 1, 0);
        duePlan("one too few is left: no such trip, though one unit would do", trader(2, 5, 2, 11), 1, 1, 1, 1);
        StarTrade x = trader(2, 5, 2, 11);
        x.set(0, 1, STOCK, 20);
        x.set(0, 2, STOCK, 20);
        duePlan("nor with another good: none", x, 1, 1, 1, 3);
        x.set(0, 1, STOCK, 1);
        duePlan("a good that is too dear to be bought", x, 1, 1, 1, 1);
    }

    private static void noGoodIsThree() {
        EDGE.says("a GOOD (or none: 3)");
        StarTrade x = trader(1, 1, 2, 50);
        for (int g = 0; g < 3; g++) {
            x.set(0, g, STOCK, 5);
            x.set(1, g, STOCK, 100);
        }
        duePlan("each good loses", x, 1, 49, 1, 3);
        x.set(0, 2, STOCK, 0);
        duePlan("a good of which there is nothing is as none, and ahead of it", x, 1, 49, 1, 2);
        x.set(0, 0, STOCK, 0);
        duePlan("the first of two such", x, 1, 49, 1, 0);
        StarTrade y = trader(1, 1, 2, 50);
        y.set(1, 0, STOCK, 100);
        duePlan("a good that gives back just what it cost", y, 1, 49, 1, 0);
    }

    private static void holdOfAPlan() {
        EDGE.says("A PLAN of a SHIP with its COINS and HOLD, its CARGO left aside");
        duePlan("the least hold", trader(1, 0, 1, 50), 1, 49 + 19, 1, 0);
        StarTrade x = trader(1, 0, 20, 500);
        // 1 1 2 .. 19 are paid for all twenty; sold at 19 18 .. 1 1: one more than it cost, so they come out even
        duePlan("the most hold", x, 1, 500, 1, 0);
        StarTrade y = trader(1, 0, 3, 50);
        due("three are bought", y.buy(0, 0, 3), 3);
        y.set(0, 0, STOCK, 20);
        y.set(0, 1, STOCK, 20);
        // 46 coins are left; 1 1 2 for three more, sold at 19 18 17
        duePlan("a full hold is empty for a plan", y, 1, 46 - 4 + 54, 1, 0);
        y.set(0, 0, STOCK, 1);
        y.set(0, 1, STOCK, 0);
        // one for 19 is sold at 19; the three of the cargo are not sold
        duePlan("only what was bought is sold", y, 1, 46, 1, 0);
        due("cargo stays", y.ofShip(0, 10), 3);
    }

    private static void planUpToMostCoins() {
        EDGE.says("of these as many as can be are sold (the rest is left aside): COINS (1000000 at most)");
        duePlan("just the most", trader(1, 0, 2, 999965), 1, 1000000, 1, 0);
        duePlan("one more than the most: the second is left aside", trader(1, 0, 2, 999966), 1, 999983, 1, 0);
        duePlan("the first is left aside, too: none pays more", trader(1, 0, 2, 1000000), 1, 1000000, 1, 1);
    }

    private static void planUpToStock() {
        EDGE.says("of these as many as can be are sold (the rest is left aside): STOCK (1000 at most)");
        StarTrade x = trader(1, 0, 2, 50);
        x.set(0, 1, STOCK, 1);
        x.set(0, 2, STOCK, 1);
        for (int g = 0; g < 3; g++) {
            x.set(1, g, STOCK, 998);
        }
        duePlan("room for two", x, 1, 50, 1, 0);
        x.set(1, 0, STOCK, 999);
        duePlan("room for one: one of two coins is lost", x, 1, 50, 1, 3);
        x.set(1, 0, STOCK, 998);
        x.set(1, 0, MAKE, 1);
        duePlan("one is made on the way: room for one", x, 1, 50, 1, 3);
        x.set(1, 0, USE, 1);
        duePlan("and one used: room for two", x, 1, 50, 1, 0);
    }

    private static void ofSeveralPlansTheFirst() {
        EDGE.says("of several the first by PORTS and GOODS, TRIP by TRIP (PORT ahead of GOOD)");
        StarTrade x = Edge.ports(3);
        x.way(0, 1, 1);
        x.way(1, 2, 1);
        x.way(2, 0, 1);
        x.ship(0, 1, 50);
        duePlan("all are one: the least ports, the first good", x, 3, 47, 1, 0, 0, 0, 1, 0);
        x.set(0, 0, STOCK, 20);
        x.set(0, 1, STOCK, 20);
        x.set(1, 0, STOCK, 100);
        x.set(2, 1, STOCK, 100);
        // good 1 to port 1 or good 0 to port 2: each costs 1 and sells at 19
        duePlan("port ahead of good", x, 1, 50 - 1 - 1 + 19, 1, 1);
        x.set(1, 1, STOCK, 1);
        duePlan("the greater whatever its port", x, 1, 50 - 1 - 1 + 19, 2, 0);
        x.set(1, 0, STOCK, 1);
        x.set(2, 0, STOCK, 100);
        duePlan("two goods to one port", x, 1, 50 - 1 - 1 + 18, 1, 0);
    }

    private static void firstTripAheadOfTheSecond() {
        EDGE.says("of several the first TRIP by TRIP");
        StarTrade x = Edge.ports(3);
        x.way(0, 1, 1);
        x.way(1, 2, 1);
        x.ship(0, 1, 100);
        x.set(0, 0, STOCK, 20);
        x.set(1, 0, STOCK, 10);
        x.set(2, 0, STOCK, 100);
        x.set(0, 1, STOCK, 20);
        x.set(0, 1, USE, 50);
        x.set(1, 1, BASE, 1);
        x.set(2, 1, STOCK, 100);
        x.set(0, 2, STOCK, 100);
        x.set(1, 2, STOCK, 20);
        x.set(2, 2, STOCK, 8);
        // good 0 for 1, sold at 9; good 2 for 1, sold at 11; or good 1 for 1, sold at 1, bought again, sold at 19 back in 0
        duePlan("the good of trip 0 ahead of the port of trip 1", x, 2, 100 - 2 + 18, 1, 0, 2, 2);
        x.set(2, 2, STOCK, 9);
        duePlan("the greater whatever its order", x, 2, 100 - 2 + 18, 1, 1, 0, 1);
    }

    private static void allElseGoesOn() {
        EDGE.says("all else goes on as told");
        StarTrade x = trader(2, 0, 2, 50);
        // good 0 costs 1 1, sells at 19 18; back in tick 4 there are 18 left for 2 3, sold at 17 16 in tick 6
        duePlan("three trips", x, 3, 50 - 2 + 37 - 5 + 33, 1, 0, 0, 1, 1, 0);
        x.set(1, 0, USE, 1);
        // the two that were sold there are used up in ticks 2 and 3, so 19 18 again
        duePlan("used where it was sold", x, 3, 50 - 2 + 37 - 5 + 37, 1, 0, 0, 1, 1, 0);
        x.set(0, 0, MAKE, 1);
        // the 18 are 22 in tick 4, so 1 1
        duePlan("made where it was bought", x, 3, 50 - 2 + 37 - 2 + 37, 1, 0, 0, 1, 1, 0);
        x.event(1, 0, 1, 5);
        x.event(3, 0, 0, -10);
        // the 22 are 12, so 8 9
        duePlan("an event behind the first deal", x, 3, 50 - 2 + 37 - 17 + 37, 1, 0, 0, 1, 1, 0);
        x.event(4, 0, 0, -1000);
        x.event(5, 1, 0, 3);
        // tick 4 comes behind the second deal in port 0; in port 1 there are 3 more, less 1: 17 16
        duePlan("an event ahead of the last", x, 3, 50 - 2 + 37 - 17 + 33, 1, 0, 0, 1, 1, 0);
        x.event(6, 1, 0, 1000);
        duePlan("an event of the tick in which it ends is yet to come", x, 3, 50 - 2 + 37 - 17 + 33, 1, 0, 0, 1, 1, 0);
    }

    private static void noPlanYet() {
        EDGE.says("20: Of the latest plan() that found one. NONE: there is none such");
        for (int i : new int[] {-1, 0, 1, 2, 3}) {
            for (int what : new int[] {-1, 0, 1, 2}) {
                EDGE.refused("none was made", () -> trader(1, 1, 2, 50), x -> x.planned(i, what), NONE);
                EDGE.refused("none was found", () -> {
                    StarTrade x = trader(1, 20, 2, 5);
                    x.plan(0, 1);
                    return x;
                }, x -> x.planned(i, what), NONE);
            }
        }
    }

    private static StarTrade planned(int k) {
        StarTrade x = trader(1, 1, 2, 50);
        x.plan(0, 3);
        x.plan(0, k);
        return x;
    }

    private static void tripsAndWhatOfPlanned() {
        EDGE.says("20: the PORT (what = 0), the GOOD (1) of TRIP i. NONE: there is none such");
        for (int k = 1; k <= 3; k++) {
            int trips = k;
            Edge.World world = () -> planned(trips);
            for (int i = 0; i < k; i++) {
                int trip = i;
                EDGE.stays("port of trip " + i, world, x -> x.planned(trip, 0), (trip + 1) % 2);
                // back to port 0 good 0 would lose, and of good 1 there is nothing
                EDGE.stays("good of trip " + i, world, x -> x.planned(trip, 1), trip % 2);
                EDGE.outsideOf("what of trip " + i, world, (x, what) -> x.planned(trip, what), 0, 1, NONE);
            }
            for (int what = -1; what <= 2; what++) {
                int w = what;
                EDGE.outsideOf("trip of " + k, world, (x, i) -> x.planned(i, w), 0, trips - 1, NONE);
            }
        }
    }

    private static void latestThatFoundOne() {
        EDGE.says("20: Of the latest plan() that found one");
        StarTrade x = trader(1, 1, 2, 50);
        duePlan("found", x, 2, 50 - 2 - 1 + 37 - 1, 1, 0, 0, 1);
        int[] latest = {1, 0, 0, 1, NONE, NONE};
        x.plan(1, 1);
        dueLatest("unknown", x, latest);
        x.plan(0, 0);
        x.plan(0, 4);
        dueLatest("outside", x, latest);
        x.shut(1, true);
        due("none", x.plan(0, 3), NO);
        dueLatest("none", x, latest);
        x.shut(1, false);
        x.way(0, 1, 0);
        due("none", x.plan(0, 1), NO);
        dueLatest("none", x, latest);
        x.way(0, 1, 1);
        x.tick(1);
        x.go(0, 1);
        dueLatest("ticks and trips", x, latest);
        duePlan("found again", x, 1, 48, 0, 0);
    }

    private static void dueLatest(String what, StarTrade x, int[] latest) {
        for (int i = 0; i < latest.length; i++) {
            due(what + ": trip " + i / 2 + " " + i % 2, x.planned(i / 2, i % 2), latest[i]);
        }
    }

    // ---- who starves, when

    private static StarTrade larder(int stock, int make, int use, int now) {
        StarTrade x = Edge.ports(2);
        Edge.passTo(x, now);
        x.set(1, 2, STOCK, stock);
        x.set(1, 2, MAKE, make);
        x.set(1, 2, USE, use);
        return x;
    }

    private static void ticksToLookAt() {
        EDGE.says("21: The first TICK from NOW on (t of them, 1 to 200). OUTSIDE");
        due("in the first", larder(0, 0, 1, 0).starves(1, 2, 1), 0);
        due("in the second of one", larder(1, 0, 1, 0).starves(1, 2, 1), NONE);
        due("in the second of two", larder(1, 0, 1, 0).starves(1, 2, 2), 1);
        due("in the last of 200", larder(199, 0, 1, 0).starves(1, 2, 200), 199);
        due("behind the last of 200", larder(200, 0, 1, 0).starves(1, 2, 200), NONE);
        due("behind the last of 199", larder(199, 0, 1, 0).starves(1, 2, 199), NONE);
        due("from now on", larder(3, 0, 1, 77).starves(1, 2, 4), 80);
        due("from now on", larder(3, 0, 1, 77).starves(1, 2, 3), NONE);
        EDGE.outsideOf("t", Edge::busy, (x, t) -> x.starves(2, 2, t), 1, 200, OUTSIDE);
        EDGE.outsideOf("t at the end", () -> Edge.busyAt(999), (x, t) -> x.starves(2, 2, t), 1, 200, OUTSIDE);
    }

    private static void starvesUpTo999() {
        EDGE.says("21: up to 999");
        due("in the last there is", larder(0, 0, 1, 998).starves(1, 2, 1), 998);
        due("in the last there is", larder(0, 0, 1, 998).starves(1, 2, 200), 998);
        due("behind the last", larder(1, 0, 1, 998).starves(1, 2, 200), NONE);
        for (int t : new int[] {1, 2, 200}) {
            due("none is left", larder(0, 0, 50, 999).starves(1, 2, t), NONE);
        }
        due("in the last there is", larder(98, 0, 1, 900).starves(1, 2, 200), 998);
        due("behind the last", larder(99, 0, 1, 900).starves(1, 2, 200), NONE);
        due("just 199 are left", larder(198, 0, 1, 800).starves(1, 2, 199), 998);
        due("just 199 are left", larder(198, 0, 1, 800).starves(1, 2, 200), 998);
        due("just 199 are left", larder(199, 0, 1, 800).starves(1, 2, 200), NONE);
    }

    private static void whatBringsHunger() {
        EDGE.says("21: that would bring HUNGER of a GOOD in a PORT; NONE");
        due("nothing is used", larder(0, 0, 0, 0).starves(1, 2, 200), NONE);
        due("just what is there is used", larder(50, 0, 50, 0).starves(1, 2, 1), NONE);
        due("one less is there", larder(49, 0, 50, 0).starves(1, 2, 1), 0);
        due("made is used", larder(0, 50, 50, 0).starves(1, 2, 200), NONE);
        due("one less is made", larder(0, 49, 50, 0).starves(1, 2, 200), 0);
        due("one less is made, one is there", larder(1, 49, 50, 0).starves(1, 2, 200), 1);
        due("what is made beyond 1000 is lost", larder(1000, 50, 50, 0).starves(1, 2, 200), NONE);
        due("the most", larder(1000, 0, 50, 0).starves(1, 2, 200), 20);
        due("one more", larder(1000, 0, 49, 0).starves(1, 2, 200), 20);
        StarTrade x = larder(1000, 1, 50, 0);
        // 950 behind the first tick, since what is made then is lost; then less by 49: 19 times, 19 are left
        due("what is lost is not used", x.starves(1, 2, 200), 20);
        due("another good", x.starves(1, 1, 200), NONE);
        due("another port", x.starves(0, 2, 200), NONE);
        x.shut(1, true);
        due("a shut port", x.starves(1, 2, 200), 20);
        StarTrade y = larder(0, 0, 5, 0);
        y.tick(3);
        due("hunger there was is none to come", y.starves(1, 2, 1), 3);
        y.set(1, 2, USE, 0);
        due("hunger there was is none to come", y.starves(1, 2, 200), NONE);
    }

    private static void eventsThatStarve() {
        EDGE.says("21: EVENTS go on as told");
        StarTrade x = larder(3, 0, 1, 10);
        x.event(12, 1, 2, -1);
        due("taken", x.starves(1, 2, 200), 12);
        x.event(10, 1, 2, 1);
        due("brought now", x.starves(1, 2, 200), 13);
        x.event(13, 1, 2, 1000);
        due("brought in the tick itself", x.starves(1, 2, 200), NONE);
        x.event(209, 1, 2, -1000);
        due("in the last", x.starves(1, 2, 200), 209);
        due("behind the last", x.starves(1, 2, 199), NONE);
        x.event(209, 1, 2, 1);
        due("one is brought behind what is taken", x.starves(1, 2, 200), NONE);
        x.event(15, 1, 1, -1000);
        x.event(15, 0, 2, -1000);
        due("events of others", x.starves(1, 2, 200), NONE);
        StarTrade y = larder(0, 0, 1, 998);
        y.event(998, 1, 2, 1);
        due("in the last tick of all", y.starves(1, 2, 1), NONE);
    }

    private static void refusalsOfStarvesInOrder() {
        EDGE.says("21: UNKNOWN; OUTSIDE. (All stays.)");
        EDGE.refused("port and t", Edge::busy, x -> x.starves(3, 0, 0), UNKNOWN);
        EDGE.refused("port and t", Edge::busy, x -> x.starves(-1, 0, 201), UNKNOWN);
        EDGE.refused("good and t", Edge::busy, x -> x.starves(0, 3, 0), UNKNOWN);
        EDGE.refused("good and t", Edge::busy, x -> x.starves(0, -1, 201), UNKNOWN);
        EDGE.stays("starves", Edge::busy, x -> x.starves(2, 2, 200), 2);
        EDGE.stays("does not starve", Edge::busy, x -> x.starves(1, 2, 200), NONE);
    }

    public static void main(String[] args) {
        holdOfARing();
        whatOfARing();
        ringHasNotSoMany();
        ringOfAllPorts();
        noRing();
        ringOfOpenPorts();
        eachPortOnce();
        gainOfALegIsNotLessThanNought();
        greatestQuotientExactly();
        ofSeveralRingsTheFewestPorts();
        thenTheFirstByNumbers();
        toldFromItsLeastPort();
        tripsOfAPlan();
        refusalsOfPlanInOrder();
        allStaysBehindAPlan();
        noPlanWithoutAWay();
        noPlanOfAShutPort();
        planThatCoinsPay();
        planUpTo999();
        fuelOfWhatIsLeft();
        noGoodIsThree();
        holdOfAPlan();
        planUpToMostCoins();
        planUpToStock();
        ofSeveralPlansTheFirst();
        firstTripAheadOfTheSecond();
        allElseGoesOn();
        noPlanYet();
        tripsAndWhatOfPlanned();
        latestThatFoundOne();
        ticksToLookAt();
        starvesUpTo999();
        whatBringsHunger();
        eventsThatStarve();
        refusalsOfStarvesInOrder();
        EDGE.end();
    }
}
