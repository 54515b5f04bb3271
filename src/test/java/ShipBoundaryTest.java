/** Each sentence of the document that names a boundary case of SHIPS, buying, selling, trips and FUEL: promises 11 to 17. */
public final class ShipBoundaryTest {
    private static final int UNKNOWN = Edge.UNKNOWN, OUTSIDE = Edge.OUTSIDE, STATE = Edge.STATE, FULL = Edge.FULL;
    private static final int NO = Edge.NO, LOST = Edge.LOST, MIN = Edge.MIN, MAX = Edge.MAX;
    private static final int STOCK = 0, MAKE = 1, USE = 2, BASE = 3, IDEAL = 4, HUNGER = 6;
    private static final int PORT = 0, HOLD = 1, COINS = 2, UNITS = 3, CARGO = 10, CHEST = 1, TRADE = 2;
    private static final Edge EDGE = new Edge();

    private static void due(String call, int got, int want) {
        EDGE.due(call, got, want);
    }

    // ---- SHIPS

    private static void shipsAreFourAtMost() {
        EDGE.says("SHIPS, 4 at most, numbered from 0 on; 11: A SHIP: its number. FULL");
        StarTrade x = Edge.ports(6);
        for (int i = 0; i < 4; i++) {
            due("ship", x.ship(5 - i, 1 + i, 7 * i), i);
            due("told(1)", x.told(1), i + 1);
        }
        due("a fifth", x.ship(0, 1, 1), FULL);
        due("once more", x.ship(0, 1, 1), FULL);
        due("coins of ships", x.told(9), 42);
        due("the last is there", x.ofShip(3, PORT), 2);
        due("the first is as it was", x.ofShip(0, PORT), 5);
        EDGE.refused("ship", ShipBoundaryTest::fourShips, y -> y.ship(1, 2, 3), FULL);
    }

    private static StarTrade fourShips() {
        StarTrade x = Edge.busy();
        x.ship(0, 3, 9);
        x.ship(2, 3, 9);
        return x;
    }

    private static void noSuchShip() {
        EDGE.says("UNKNOWN: there is no such SHIP");
        for (int n = 1; n <= 4; n++) {
            int count = n;
            Edge.World world = () -> ships(count);
            for (int s : new int[] {-1, count, MIN, MAX}) {
                EDGE.refused("buy " + s, world, x -> x.buy(s, 0, 1), UNKNOWN);
                EDGE.refused("sell " + s, world, x -> x.sell(s, 0, 1), UNKNOWN);
                EDGE.refused("go " + s, world, x -> x.go(s, 1), UNKNOWN);
                EDGE.refused("ofShip " + s, world, x -> x.ofShip(s, 0), UNKNOWN);
                EDGE.refused("plan " + s, world, x -> x.plan(s, 1), UNKNOWN);
            }
            for (int s : new int[] {0, count - 1}) {
                due("buy " + s, world.make().buy(s, 0, 1), 1);
                due("sell " + s, world.make().sell(s, 0, 1), 0);
                due("go " + s, world.make().go(s, 1), 1);
                due("ofShip " + s, world.make().ofShip(s, 2), 50);
                due("plan " + s, world.make().plan(s, 1) >= 0 ? 1 : 0, 1);
            }
        }
    }

    private static StarTrade ships(int n) {
        StarTrade x = Edge.ports(2);
        x.set(0, 0, STOCK, 15);
        x.way(0, 1, 1);
        for (int i = 0; i < n; i++) {
            x.ship(0, 2, 50);
        }
        return x;
    }

    private static void holdFromOneToTwenty() {
        EDGE.says("a HOLD (1 to 20 units); 11: OUTSIDE");
        EDGE.range("hold", Edge::busy, (x, v) -> x.ship(1, v, 5), x -> x.ofShip(2, HOLD), 1, 20, OUTSIDE);
    }

    private static void coinsFromNoughtToMillion() {
        EDGE.says("COINS (0 to 1000000); 11: OUTSIDE");
        EDGE.range("coins", Edge::busy, (x, v) -> x.ship(1, 5, v), x -> x.ofShip(2, COINS), 0, 1000000, OUTSIDE);
        StarTrade x = Edge.ports(1);
        for (int i = 0; i < 4; i++) {
            x.ship(0, 1, 1000000);
        }
        due("coins of all ships, the most", x.told(9), 4000000);
    }

    private static void refusalsOfShipInOrder() {
        EDGE.says("the first of these that fits: of ship UNKNOWN, OUTSIDE, FULL");
        EDGE.refused("all three", ShipBoundaryTest::fourShips, x -> x.ship(3, 0, 0), UNKNOWN);
        EDGE.refused("unknown and full", ShipBoundaryTest::fourShips, x -> x.ship(-1, 1, 0), UNKNOWN);
        EDGE.refused("hold and full", ShipBoundaryTest::fourShips, x -> x.ship(0, 21, 0), OUTSIDE);
        EDGE.refused("coins and full", ShipBoundaryTest::fourShips, x -> x.ship(0, 1, 1000001), OUTSIDE);
        EDGE.refused("unknown and hold", Edge::busy, x -> x.ship(3, 0, 5), UNKNOWN);
        EDGE.refused("unknown and coins", Edge::busy, x -> x.ship(3, 1, -1), UNKNOWN);
    }

    private static void shipInAShutPort() {
        EDGE.says("11: UNKNOWN; OUTSIDE; FULL (a SHUT PORT is no refusal)");
        StarTrade x = Edge.busy();
        x.shut(2, true);
        due("ship", x.ship(2, 1, 0), 2);
        due("lies there", x.ofShip(2, PORT), 2);
    }

    // ---- TO BUY

    /** One port and one ship; all prices are 1, since there is far more than twice IDEAL. */
    private static StarTrade cheap(int hold, int coins) {
        StarTrade x = Edge.ports(1);
        for (int g = 0; g < 3; g++) {
            x.set(0, g, STOCK, 100);
        }
        x.ship(0, hold, coins);
        return x;
    }

    private static void unitsToBuy() {
        EDGE.says("12: how many units. OUTSIDE: units 1 to 20");
        for (int units : new int[] {1, 2, 19, 20}) {
            StarTrade x = cheap(20, 1000);
            due("buy " + units, x.buy(0, 1, units), units);
            due("cargo", x.ofShip(0, CARGO + 1), units);
            due("coins", x.ofShip(0, COINS), 1000 - units);
            due("stock", x.about(0, 1, STOCK), 100 - units);
        }
        EDGE.outsideOf("buy", Edge::busy, (x, units) -> x.buy(0, 0, units), 1, 20, OUTSIDE);
        EDGE.outsideOf("buy", () -> cheap(20, 1000), (x, units) -> x.buy(0, 0, units), 1, 20, OUTSIDE);
    }

    private static void buyUpToHold() {
        EDGE.says("As many as told, or as can be: HOLD");
        due("more than the hold", cheap(5, 1000).buy(0, 0, 6), 5);
        due("just the hold", cheap(5, 1000).buy(0, 0, 5), 5);
        due("one less", cheap(5, 1000).buy(0, 0, 4), 4);
        due("the least hold", cheap(1, 1000).buy(0, 0, 20), 1);
        due("the most hold", cheap(20, 1000).buy(0, 0, 20), 20);
        StarTrade x = cheap(5, 1000);
        due("two of one good", x.buy(0, 0, 2), 2);
        due("two of another", x.buy(0, 1, 2), 2);
        due("one place is left", x.buy(0, 2, 2), 1);
        due("units in all", x.ofShip(0, UNITS), 5);
        EDGE.stays("none is left", () -> laden(5, 5), y -> y.buy(0, 1, 1), 0);
        EDGE.stays("none is left", () -> laden(5, 5), y -> y.buy(0, 0, 20), 0);
        due("one is left", laden(5, 4).buy(0, 0, 20), 1);
    }

    private static StarTrade laden(int hold, int units) {
        StarTrade x = cheap(hold, 1000);
        x.buy(0, 0, units);
        return x;
    }

    private static void buyUpToStock() {
        EDGE.says("As many as told, or as can be: STOCK");
        for (int stock : new int[] {1, 6, 7}) {
            StarTrade x = cheap(20, 1000);
            x.set(0, 0, STOCK, stock);
            due("of " + stock, x.buy(0, 0, 7), stock);
            due("none is left", x.about(0, 0, STOCK), 0);
            due("and no more", x.buy(0, 0, 1), 0);
        }
        StarTrade y = cheap(20, 1000);
        y.set(0, 0, STOCK, 8);
        due("of 8", y.buy(0, 0, 7), 7);
        due("one is left", y.about(0, 0, STOCK), 1);
        y.set(0, 0, STOCK, 1000);
        due("of 1000", y.buy(0, 0, 7), 7);
        due("993 are left", y.about(0, 0, STOCK), 993);
        EDGE.stays("of nothing", Edge::busy, x -> x.buy(0, 2, 1), 0);
    }

    /** Ten in stock, so prices 10, 11, 12 .. as they are bought; a TAX of 3. */
    private static StarTrade purse(int coins) {
        StarTrade x = Edge.ports(1);
        x.set(0, 0, STOCK, 10);
        x.tax(0, 3);
        x.ship(0, 20, coins);
        return x;
    }

    private static void buyUpToCoins() {
        EDGE.says("each at PRICE as it is then and TAX; as many as can be: COINS");
        EDGE.stays("one less than the first costs", () -> purse(12), x -> x.buy(0, 0, 5), 0);
        EDGE.stays("no coins", () -> purse(0), x -> x.buy(0, 0, 5), 0);
        int[][] rows = {{13, 1, 0}, {14, 1, 1}, {26, 1, 13}, {27, 2, 0}, {28, 2, 1}, {41, 2, 14}, {42, 3, 0}};
        for (int[] row : rows) {
            StarTrade x = purse(row[0]);
            due("with " + row[0], x.buy(0, 0, 5), row[1]);
            due("left of " + row[0], x.ofShip(0, COINS), row[2]);
            due("stock", x.about(0, 0, STOCK), 10 - row[1]);
            due("chest", x.ofPort(0, CHEST), 3 * row[1]);
            due("trade", x.ofPort(0, TRADE), row[2] + 3 * row[1] - row[0]);
        }
        StarTrade y = purse(1000000);
        due("with the most coins", y.buy(0, 0, 20), 10);
        due("left", y.ofShip(0, COINS), 1000000 - 145 - 30);
    }

    private static void refusalsOfDealsInOrder() {
        EDGE.says("12, 13: UNKNOWN; OUTSIDE; NO: the PORT is SHUT");
        EDGE.refused("buy", ShipBoundaryTest::blockaded, x -> x.buy(0, 0, 1), NO);
        EDGE.refused("sell", ShipBoundaryTest::blockaded, x -> x.sell(0, 0, 1), NO);
        EDGE.refused("buy nothing that is there", ShipBoundaryTest::blockaded, x -> x.buy(0, 2, 20), NO);
        EDGE.refused("sell nothing that is there", ShipBoundaryTest::blockaded, x -> x.sell(0, 2, 20), NO);
        EDGE.refused("buy, outside", ShipBoundaryTest::blockaded, x -> x.buy(0, 0, 0), OUTSIDE);
        EDGE.refused("sell, outside", ShipBoundaryTest::blockaded, x -> x.sell(0, 0, 21), OUTSIDE);
        EDGE.refused("buy, good", ShipBoundaryTest::blockaded, x -> x.buy(0, 3, 0), UNKNOWN);
        EDGE.refused("sell, good", ShipBoundaryTest::blockaded, x -> x.sell(0, -1, 21), UNKNOWN);
        EDGE.refused("buy, ship", ShipBoundaryTest::blockaded, x -> x.buy(2, 0, 21), UNKNOWN);
        EDGE.refused("sell, ship", ShipBoundaryTest::blockaded, x -> x.sell(-1, 0, 0), UNKNOWN);
        EDGE.refused("buy, good and units", Edge::busy, x -> x.buy(0, 3, 0), UNKNOWN);
        EDGE.refused("sell, ship and units", Edge::busy, x -> x.sell(2, 0, 21), UNKNOWN);
        due("another port is not shut", blockaded().buy(1, 1, 1), 1);
        StarTrade x = blockaded();
        x.shut(0, false);
        due("open again", x.sell(0, 0, 1), 1);
    }

    private static StarTrade blockaded() {
        StarTrade x = Edge.busy();
        x.shut(0, true);
        return x;
    }

    // ---- TO SELL

    private static void unitsToSell() {
        EDGE.says("13: how many. As buy() (OUTSIDE: units 1 to 20)");
        for (int units : new int[] {1, 2, 19, 20}) {
            StarTrade x = laden(20, 20);
            due("sell " + units, x.sell(0, 0, units), units);
            due("cargo", x.ofShip(0, CARGO), 20 - units);
            due("coins", x.ofShip(0, COINS), 980 + units);
            due("stock", x.about(0, 0, STOCK), 80 + units);
        }
        EDGE.outsideOf("sell", Edge::busy, (x, units) -> x.sell(0, 0, units), 1, 20, OUTSIDE);
        EDGE.outsideOf("sell", () -> laden(20, 20), (x, units) -> x.sell(0, 0, units), 1, 20, OUTSIDE);
    }

    private static void sellUpToCargo() {
        EDGE.says("As many as told, or as can be: CARGO");
        due("all but one", laden(9, 6).sell(0, 0, 5), 5);
        due("just all", laden(9, 6).sell(0, 0, 6), 6);
        due("one more than all", laden(9, 6).sell(0, 0, 7), 6);
        due("the most", laden(9, 6).sell(0, 0, 20), 6);
        StarTrade x = laden(9, 6);
        x.sell(0, 0, 6);
        due("none is left", x.ofShip(0, CARGO), 0);
        due("and no more", x.sell(0, 0, 1), 0);
        EDGE.stays("of nothing", () -> laden(9, 6), y -> y.sell(0, 1, 1), 0);
    }

    private static void sellUpToStock() {
        EDGE.says("As many as told, or as can be: STOCK (1000 at most)");
        int[][] rows = {{994, 6}, {995, 5}, {998, 2}, {999, 1}};
        for (int[] row : rows) {
            StarTrade x = laden(9, 6);
            x.set(0, 0, STOCK, row[0]);
            due("into " + row[0], x.sell(0, 0, 6), row[1]);
            due("stock", x.about(0, 0, STOCK), 1000);
            due("cargo", x.ofShip(0, CARGO), 6 - row[1]);
        }
        Edge.World full = () -> {
            StarTrade x = laden(9, 6);
            x.set(0, 0, STOCK, 1000);
            return x;
        };
        EDGE.stays("into 1000", full, x -> x.sell(0, 0, 6), 0);
        StarTrade y = laden(9, 6);
        y.set(0, 0, STOCK, 993);
        due("into 993", y.sell(0, 0, 6), 6);
        due("stock", y.about(0, 0, STOCK), 999);
    }

    /** A ship with so many coins and three units of a good that sells at 5, 4, 3. */
    private static StarTrade nearlyRich(int coins) {
        StarTrade x = Edge.ports(1);
        x.set(0, 0, STOCK, 100);
        x.ship(0, 3, coins + 3);
        x.buy(0, 0, 3);
        x.set(0, 0, STOCK, 14);
        return x;
    }

    private static void sellUpToMostCoins() {
        EDGE.says("As many as told, or as can be: COINS (1000000 at most)");
        int[][] rows = {{999988, 3, 1000000}, {999989, 2, 999998}, {999991, 2, 1000000}, {999992, 1, 999997},
            {999995, 1, 1000000}, {999987, 3, 999999}};
        for (int[] row : rows) {
            StarTrade x = nearlyRich(row[0]);
            due("coins ahead", x.ofShip(0, COINS), row[0]);
            due("with " + row[0], x.sell(0, 0, 3), row[1]);
            due("coins", x.ofShip(0, COINS), row[2]);
            due("cargo", x.ofShip(0, CARGO), 3 - row[1]);
            due("stock", x.about(0, 0, STOCK), 14 + row[1]);
        }
        EDGE.stays("with 999996", () -> nearlyRich(999996), x -> x.sell(0, 0, 3), 0);
        StarTrade y = nearlyRich(999996);
        y.tax(0, 1);
        due("less tax it is just the most", y.sell(0, 0, 1), 1);
        due("coins", y.ofShip(0, COINS), 1000000);
        y.tax(0, 20);
        due("all is tax, so the most coins are no bar", y.sell(0, 0, 2), 2);
        due("coins", y.ofShip(0, COINS), 1000000);
        due("chest", y.ofPort(0, CHEST), 1 + 4 + 3);
    }

    private static void sellWithThatUnitInStock() {
        EDGE.says("each at PRICE as it is with that unit in STOCK, too");
        StarTrade x = laden(9, 3);
        x.set(0, 0, STOCK, 0);
        due("sell", x.sell(0, 0, 3), 3);
        due("19 18 17", x.ofShip(0, COINS), 997 + 54);
        x.set(0, 0, STOCK, 17);
        x.buy(0, 0, 3);
        due("3 4 5", x.ofShip(0, COINS), 997 + 54 - 12);
        x.set(0, 0, STOCK, 18);
        x.sell(0, 0, 3);
        due("1 1 1", x.ofShip(0, COINS), 997 + 54 - 12 + 3);
    }

    private static void taxThatPriceAtMost() {
        EDGE.says("less TAX (that PRICE at most)");
        int[][] rows = {{0, 5, 0}, {4, 1, 4}, {5, 0, 5}, {6, 0, 5}, {20, 0, 5}};
        for (int[] row : rows) {
            StarTrade x = nearlyRich(100);
            x.tax(0, row[0]);
            due("tax " + row[0], x.sell(0, 0, 1), 1);
            due("coins", x.ofShip(0, COINS), 100 + row[1]);
            due("chest", x.ofPort(0, CHEST), row[2]);
            due("trade, 3 taken and 5 given", x.ofPort(0, TRADE), 2);
        }
        StarTrade y = nearlyRich(100);
        y.tax(0, 4);
        due("tax of 5, 4, 3", y.sell(0, 0, 3), 3);
        due("coins", y.ofShip(0, COINS), 101);
        due("chest", y.ofPort(0, CHEST), 4 + 4 + 3);
        due("trade", y.ofPort(0, TRADE), -3 + 12);
    }

    private static void taxOfABuyIsWhole() {
        EDGE.says("a TAX on each unit bought, that goes to its CHEST");
        StarTrade x = cheap(20, 62);
        x.tax(0, 20);
        due("each costs 21", x.buy(0, 0, 20), 2);
        due("coins", x.ofShip(0, COINS), 20);
        due("chest", x.ofPort(0, CHEST), 40);
        due("trade", x.ofPort(0, TRADE), -2);
    }

    // ---- A TRIP

    /** Port 0 and port 1 by a way, port 2 apart; FUEL 5; the ship has just so many coins. */
    private static StarTrade harbour(int length, int coins, int now) {
        StarTrade x = Edge.ports(3);
        x.way(0, 1, length);
        x.fuel(5);
        x.ship(0, 4, coins);
        x.set(2, 0, USE, 1);
        Edge.passTo(x, now);
        return x;
    }

    private static void tripToNoPort() {
        EDGE.says("14: UNKNOWN");
        for (int p : new int[] {-1, 3, MIN, MAX}) {
            EDGE.refused("go to " + p, Edge::busy, x -> x.go(0, p), UNKNOWN);
            EDGE.refused("go to " + p + " at the end", () -> Edge.busyAt(999), x -> x.go(0, p), UNKNOWN);
        }
        for (int s : new int[] {-1, 2, MIN, MAX}) {
            EDGE.refused("ship " + s, Edge::busy, x -> x.go(s, 1), UNKNOWN);
            EDGE.refused("ship " + s + " at the end", () -> Edge.busyAt(999), x -> x.go(s, 1), UNKNOWN);
        }
    }

    private static void tripUpTo999() {
        EDGE.says("14: STATE: NOW would be beyond 999");
        for (int length : new int[] {1, 2, 9}) {
            due("just to 999", harbour(length, 100, 999 - length).go(0, 1), 999);
            EDGE.refused("one beyond", () -> harbour(length, 100, 1000 - length), x -> x.go(0, 1), STATE);
            EDGE.refused("none is left", () -> harbour(length, 100, 999), x -> x.go(0, 1), STATE);
            EDGE.refused("nor do coins pay", () -> harbour(length, 0, 999), x -> x.go(0, 1), STATE);
        }
        Edge.World shut = () -> {
            StarTrade x = harbour(2, 100, 998);
            x.shut(1, true);
            return x;
        };
        EDGE.refused("state ahead of no", shut, x -> x.go(0, 1), STATE);
        EDGE.refused("no way, at the end", () -> harbour(2, 100, 999), x -> x.go(0, 2), NO);
        EDGE.refused("it is there, at the end", () -> harbour(2, 100, 999), x -> x.go(0, 0), NO);
    }

    private static void tripWithoutAWay() {
        EDGE.says("14: NO: there is no WAY");
        EDGE.refused("go", () -> harbour(1, 1000, 0), x -> x.go(0, 2), NO);
        StarTrade x = harbour(1, 1000, 0);
        x.way(2, 0, 3);
        due("now there is", x.go(0, 2), 3);
        x.way(0, 2, 0);
        due("now there is none", x.go(0, 0), NO);
    }

    private static void tripToWhereItIs() {
        EDGE.says("14: NO: it is there");
        EDGE.refused("go", () -> harbour(1, 1000, 0), x -> x.go(0, 0), NO);
        EDGE.refused("go", Edge::busy, x -> x.go(1, 1), NO);
    }

    private static void tripOfAShutPort() {
        EDGE.says("A PORT may be SHUT: no ship comes to it or leaves it; 14: NO: one is SHUT");
        for (int p = 0; p < 2; p++) {
            int shut = p;
            Edge.World world = () -> {
                StarTrade x = harbour(1, 1000, 0);
                x.shut(shut, true);
                return x;
            };
            EDGE.refused("go", world, x -> x.go(0, 1), NO);
            StarTrade x = world.make();
            x.shut(shut, false);
            due("open again", x.go(0, 1), 1);
        }
        StarTrade y = harbour(1, 1000, 0);
        y.shut(2, true);
        due("a third is shut", y.go(0, 1), 1);
    }

    private static void tripThatCoinsPay() {
        EDGE.says("FUEL is paid for each TICK of a trip as it begins; 14: NO: COINS do not pay the FUEL");
        EDGE.refused("one too few", () -> harbour(3, 14, 0), x -> x.go(0, 1), NO);
        EDGE.refused("none", () -> harbour(3, 0, 0), x -> x.go(0, 1), NO);
        StarTrade x = harbour(3, 15, 0);
        due("just enough", x.go(0, 1), 3);
        due("coins", x.ofShip(0, COINS), 0);
        due("fuel paid so far", x.told(10), 15);
        due("is there", x.ofShip(0, PORT), 1);
        due("ticks went on for all", x.about(2, 0, HUNGER), 3);
        x.fuel(0);
        due("no coins for no fuel", x.go(0, 0), 6);
        due("fuel paid so far", x.told(10), 15);
        StarTrade y = harbour(9, 180, 0);
        y.fuel(20);
        due("the most fuel of the longest way", y.go(0, 1), 9);
        due("coins", y.ofShip(0, COINS), 0);
        EDGE.refused("one too few of the most", () -> dearest(179), z -> z.go(0, 1), NO);
        due("enough of the most", dearest(180).go(0, 1), 9);
    }

    private static StarTrade dearest(int coins) {
        StarTrade x = harbour(9, coins, 0);
        x.fuel(20);
        return x;
    }

    private static void ticksOfATrip() {
        EDGE.says("as many TICKS as the WAY is long go on, for all; the ship is there then");
        StarTrade x = Edge.busy();
        StarTrade y = Edge.busy();
        due("go", x.go(0, 1), 4);
        due("tick", y.tick(2), 4);
        for (int i = 0; i < 63; i++) {
            due("as ticks do " + i, x.about(i / 21, i / 7 % 3, i % 7), y.about(i / 21, i / 7 % 3, i % 7));
        }
        for (int what : new int[] {2, 3, 4, 5, 6, 7, 8}) {
            due("told " + what, x.told(what), y.told(what));
        }
        due("cargo stays", x.ofShip(0, CARGO), 1);
        due("another ship stays", x.ofShip(1, PORT), 1);
    }

    // ---- what is told of a SHIP, FUEL, and what is told in all

    private static void whatOfOfShip() {
        EDGE.says("15: 0 PORT, 1 HOLD, 2 COINS, 3 units in all, 10 and g: CARGO of GOOD g. UNKNOWN; OUTSIDE");
        StarTrade x = cheap(9, 100);
        x.buy(0, 0, 1);
        x.buy(0, 1, 2);
        x.buy(0, 2, 3);
        int[][] rows = {{0, 0}, {1, 9}, {2, 94}, {3, 6}, {10, 1}, {11, 2}, {12, 3}};
        for (int[] row : rows) {
            due("ofShip " + row[0], x.ofShip(0, row[0]), row[1]);
        }
        EDGE.outsideOf("ofShip", Edge::busy, (y, what) -> y.ofShip(0, what), 0, 3, OUTSIDE);
        EDGE.outsideOf("cargo", Edge::busy, (y, what) -> y.ofShip(0, what), 10, 12, OUTSIDE);
        for (int what = 4; what < 10; what++) {
            int w = what;
            EDGE.refused("ofShip " + w, Edge::busy, y -> y.ofShip(0, w), OUTSIDE);
        }
        EDGE.refused("no ship or what", Edge::busy, y -> y.ofShip(2, 4), UNKNOWN);
        EDGE.refused("no ship or what", Edge::busy, y -> y.ofShip(-1, -1), UNKNOWN);
    }

    private static void fuelFromNoughtToTwenty() {
        EDGE.says("FUEL (0 to 20; 1 at first); 16: which it was. OUTSIDE");
        EDGE.range("fuel", Edge::busy, StarTrade::fuel, x -> x.told(11), 0, 20, OUTSIDE);
        StarTrade x = new StarTrade();
        due("at first", x.fuel(20), 1);
        due("most was", x.fuel(0), 20);
        due("least was", x.fuel(0), 0);
    }

    private static void whatOfTold() {
        EDGE.says("17: 0 PORTS .. 11 FUEL. OUTSIDE (LOST less 2)");
        // Port 0 made 3 and used 1 in each tick; port 2 used 6 and then 3; 2 are paid for 2 units, and 2 tax.
        StarTrade x = Edge.busy();
        due("first what", x.told(0), 3);
        due("last what", x.told(11), 2);
        due("made", x.told(5), 6);
        due("used", x.told(6), 1 + 1 + 6 + 3);
        due("brought", x.told(7), 5);
        EDGE.outsideOf("told", Edge::busy, StarTrade::told, 0, 11, LOST - 2);
        EDGE.outsideOf("told of a new object", StarTrade::new, StarTrade::told, 0, 11, LOST - 2);
    }

    private static void eachGoodIsCounted() {
        EDGE.says("each good counted: 17: 4 units in all STOCKS and CARGOES");
        for (int now : new int[] {2, 3, 5, 300, 998, 999}) {
            StarTrade x = Edge.busyAt(now);
            due("units at " + now, x.told(4), x.told(5) - x.told(6) + x.told(7) + x.told(8));
        }
        StarTrade y = Edge.ports(6);
        for (int i = 0; i < 18; i++) {
            y.set(i / 3, i % 3, STOCK, 1000);
        }
        for (int s = 0; s < 4; s++) {
            y.ship(s, 20, 100);
            y.buy(s, s % 3, 20);
        }
        due("as many as there may be", y.told(4), 18000);
        due("told by set", y.told(8), 18000);
        for (int s = 0; s < 4; s++) {
            y.set(s, s % 3, STOCK, 1000);
        }
        due("with full holds", y.told(4), 18080);
        due("told by set", y.told(8), 18080);
    }

    private static void eventsTakeMoreThanTheyBring() {
        EDGE.says("17: 7 what EVENTS brought (less what they took)");
        StarTrade x = Edge.ports(6);
        for (int i = 0; i < 18; i++) {
            x.set(i / 3, i % 3, STOCK, 1000);
            x.event(0, i / 3, i % 3, -1000);
        }
        x.tick(1);
        due("all is taken", x.told(7), -18000);
        due("nothing is left", x.told(4), 0);
    }

    private static void eachCoinIsCounted() {
        EDGE.says("each coin counted: COINS that PORTS gave and took are TRADE of each (given less taken)");
        StarTrade x = Edge.busy();
        x.go(0, 1);
        x.sell(0, 0, 1);
        x.buy(0, 1, 4);
        x.go(0, 2);
        x.sell(0, 1, 4);
        int ports = 0;
        for (int p = 0; p < 3; p++) {
            ports += x.ofPort(p, TRADE) - x.ofPort(p, CHEST);
        }
        due("coins of ships and fuel paid", x.told(9) + x.told(10), 360 + ports);
        due("fuel paid", x.told(10), 2 * 2 + 3 * 2);
    }

    private static void mostMadeAndUsed() {
        EDGE.says("17: 5 made so far, 6 used so far, over all TICKS");
        StarTrade x = Edge.ports(6);
        for (int i = 0; i < 18; i++) {
            x.set(i / 3, i % 3, MAKE, 50);
            x.set(i / 3, i % 3, USE, 50);
            x.set(i / 3, i % 3, BASE, 100);
            x.set(i / 3, i % 3, IDEAL, 100);
        }
        Edge.passTo(x, 999);
        due("made", x.told(5), 18 * 50 * 999);
        due("used", x.told(6), 18 * 50 * 999);
        due("units", x.told(4), 0);
    }

    public static void main(String[] args) {
        shipsAreFourAtMost();
        noSuchShip();
        holdFromOneToTwenty();
        coinsFromNoughtToMillion();
        refusalsOfShipInOrder();
        shipInAShutPort();
        unitsToBuy();
        buyUpToHold();
        buyUpToStock();
        buyUpToCoins();
        refusalsOfDealsInOrder();
        unitsToSell();
        sellUpToCargo();
        sellUpToStock();
        sellUpToMostCoins();
        sellWithThatUnitInStock();
        taxThatPriceAtMost();
        taxOfABuyIsWhole();
        tripToNoPort();
        tripUpTo999();
        tripWithoutAWay();
        tripToWhereItIs();
        tripOfAShutPort();
        tripThatCoinsPay();
        ticksOfATrip();
        whatOfOfShip();
        fuelFromNoughtToTwenty();
        whatOfTold();
        eachGoodIsCounted();
        eventsTakeMoreThanTheyBring();
        eachCoinIsCounted();
        mostMadeAndUsed();
        EDGE.end();
    }
}
