/** Each sentence of the document that names a boundary case of PORTS, GOODS, WAYS, TICKS and EVENTS: promises 1 to 10. */
public final class PortBoundaryTest {
    private static final int UNKNOWN = Edge.UNKNOWN, OUTSIDE = Edge.OUTSIDE, STATE = Edge.STATE, FULL = Edge.FULL;
    private static final int NO = Edge.NO, NONE = Edge.NONE, LOST = Edge.LOST, MIN = Edge.MIN, MAX = Edge.MAX;
    private static final int STOCK = 0, MAKE = 1, USE = 2, BASE = 3, IDEAL = 4, PRICE = 5, HUNGER = 6;
    private static final Edge EDGE = new Edge();

    private static void due(String call, int got, int want) {
        EDGE.due(call, got, want);
    }

    // ---- a new object, and how many PORTS and GOODS there are

    private static void newObjectHasNoPorts() {
        EDGE.says("1: No PORTS");
        due("told(0)", new StarTrade().told(0), 0);
        EDGE.refused("set", StarTrade::new, x -> x.set(0, 0, 0, 1), UNKNOWN);
        EDGE.refused("about", StarTrade::new, x -> x.about(0, 0, 0), UNKNOWN);
        EDGE.refused("tax", StarTrade::new, x -> x.tax(0, 0), UNKNOWN);
        EDGE.refused("shut", StarTrade::new, x -> x.shut(0, true), UNKNOWN);
        EDGE.refused("way", StarTrade::new, x -> x.way(0, 1, 1), UNKNOWN);
        EDGE.refused("ofPort", StarTrade::new, x -> x.ofPort(0, 0), LOST - 1);
        EDGE.refused("event", StarTrade::new, x -> x.event(0, 0, 0, 1), UNKNOWN);
        EDGE.refused("ship", StarTrade::new, x -> x.ship(0, 1, 0), UNKNOWN);
        EDGE.refused("starves", StarTrade::new, x -> x.starves(0, 0, 1), UNKNOWN);
        EDGE.refused("ring", StarTrade::new, x -> x.ring(1, 0), LOST - 5);
    }

    private static void newObjectHasNoShips() {
        EDGE.says("1: a new object has no SHIPS either");
        EDGE.refused("buy", () -> Edge.ports(1), x -> x.buy(0, 0, 1), UNKNOWN);
        EDGE.refused("sell", () -> Edge.ports(1), x -> x.sell(0, 0, 1), UNKNOWN);
        EDGE.refused("go", () -> Edge.ports(2), x -> x.go(0, 1), UNKNOWN);
        EDGE.refused("ofShip", () -> Edge.ports(1), x -> x.ofShip(0, 0), UNKNOWN);
        EDGE.refused("plan", () -> Edge.ports(1), x -> x.plan(0, 1), UNKNOWN);
        EDGE.refused("planned", () -> Edge.ports(1), x -> x.planned(0, 0), NONE);
    }

    private static void newObjectHasFuelOne() {
        EDGE.says("1: FUEL 1; NOW is 0 at first");
        for (int what = 0; what < 11; what++) {
            due("told " + what, new StarTrade().told(what), 0);
        }
        due("told 11", new StarTrade().told(11), 1);
        due("fuel", new StarTrade().fuel(1), 1);
        StarTrade x = new StarTrade();
        due("ticks without ports", x.tick(200), 200);
        due("another object has its own", new StarTrade().told(2), 0);
    }

    private static void portsAreSixAtMost() {
        EDGE.says("PORTS, 6 at most; 2: FULL");
        StarTrade x = new StarTrade();
        for (int i = 0; i < 6; i++) {
            due("port", x.port(), i);
            due("told(0)", x.told(0), i + 1);
        }
        due("a seventh", x.port(), FULL);
        due("once more", x.port(), FULL);
        EDGE.refused("port", () -> Edge.ports(6), StarTrade::port, FULL);
        EDGE.refused("port", PortBoundaryTest::fullOfAll, StarTrade::port, FULL);
        due("the last is there", x.set(5, 2, STOCK, 9), 0);
        due("the last is there", x.about(5, 2, STOCK), 9);
    }

    private static StarTrade fullOfAll() {
        StarTrade x = Edge.busy();
        for (int i = 0; i < 4; i++) {
            x.port();
            x.ship(0, 3, 9);
        }
        for (int i = 0; i < 20; i++) {
            x.event(5 + i, i % 6, i % 3, 1 + i);
        }
        return x;
    }

    private static void portsAreNumberedFromNought() {
        EDGE.says("PORTS numbered from 0 on; UNKNOWN: there is no such PORT");
        for (int n = 1; n <= 6; n++) {
            int count = n;
            Edge.World world = () -> Edge.ports(count);
            for (int p : new int[] {-1, count, MIN, MAX}) {
                EDGE.refused("set " + p, world, x -> x.set(p, 0, STOCK, 1), UNKNOWN);
                EDGE.refused("about " + p, world, x -> x.about(p, 0, STOCK), UNKNOWN);
                EDGE.refused("tax " + p, world, x -> x.tax(p, 1), UNKNOWN);
                EDGE.refused("shut " + p, world, x -> x.shut(p, true), UNKNOWN);
                EDGE.refused("way to " + p, world, x -> x.way(0, p, 1), UNKNOWN);
                EDGE.refused("way from " + p, world, x -> x.way(p, 0, 1), UNKNOWN);
                EDGE.refused("ofPort " + p, world, x -> x.ofPort(p, 0), LOST - 1);
                EDGE.refused("event " + p, world, x -> x.event(0, p, 0, 1), UNKNOWN);
                EDGE.refused("ship " + p, world, x -> x.ship(p, 1, 1), UNKNOWN);
                EDGE.refused("starves " + p, world, x -> x.starves(p, 0, 1), UNKNOWN);
            }
            due("the first is known", world.make().tax(0, 1), 0);
            due("the last is known", world.make().tax(count - 1, 1), 0);
        }
    }

    private static void goodsAreThree() {
        EDGE.says("GOODS, 3, numbered from 0 on; UNKNOWN: there is no such GOOD");
        for (int g = 0; g < 3; g++) {
            StarTrade x = Edge.busy();
            due("set", x.set(1, g, USE, 1), 0);
            due("about", x.about(1, g, USE), 1);
            due("event", x.event(2, 1, g, 1), 4);
            due("starves, but for the event", x.starves(1, g, 1), NONE);
            due("buy", x.buy(1, g, 1), g == 1 ? 1 : 0);
            due("sell", x.sell(1, g, 1), g == 1 ? 1 : 0);
        }
        for (int g : new int[] {-1, 3, MIN, MAX}) {
            EDGE.refused("set " + g, Edge::busy, x -> x.set(0, g, STOCK, 1), UNKNOWN);
            EDGE.refused("about " + g, Edge::busy, x -> x.about(0, g, STOCK), UNKNOWN);
            EDGE.refused("event " + g, Edge::busy, x -> x.event(5, 0, g, 1), UNKNOWN);
            EDGE.refused("buy " + g, Edge::busy, x -> x.buy(0, g, 1), UNKNOWN);
            EDGE.refused("sell " + g, Edge::busy, x -> x.sell(0, g, 1), UNKNOWN);
            EDGE.refused("starves " + g, Edge::busy, x -> x.starves(0, g, 1), UNKNOWN);
        }
    }

    // ---- what a PORT has of a GOOD

    private static void numberOfShelf(int what, int first, int least, int most) {
        due("at first", Edge.ports(1).about(0, 0, what), first);
        due("the last good of the last port at first", Edge.ports(6).about(5, 2, what), first);
        due("which it was", Edge.ports(1).set(0, 0, what, most), first);
        EDGE.range("set", Edge::busy, (x, v) -> x.set(1, 2, what, v), x -> x.about(1, 2, what), least, most, OUTSIDE);
        StarTrade x = Edge.ports(2);
        x.set(1, 1, what, most);
        due("most was", x.set(1, 1, what, least), most);
        due("least was", x.set(1, 1, what, least), least);
        due("of another good", x.about(1, 0, what), first);
        due("of another port", x.about(0, 1, what), first);
        int[] firsts = {0, 0, 0, 10, 10};
        for (int other = 0; other < 5; other++) {
            for (int v : new int[] {least, most}) {
                StarTrade y = Edge.ports(1);
                y.set(0, 0, what, v);
                due("number " + other + " of the same good", y.about(0, 0, other), other == what ? v : firsts[other]);
            }
        }
    }

    private static void stockFromNoughtToThousand() {
        EDGE.says("STOCK (0 to 1000; 0 at first)");
        numberOfShelf(STOCK, 0, 0, 1000);
    }

    private static void makeFromNoughtToFifty() {
        EDGE.says("MAKE each TICK (0 to 50; 0)");
        numberOfShelf(MAKE, 0, 0, 50);
        StarTrade x = Edge.ports(1);
        x.set(0, 0, MAKE, 50);
        x.tick(1);
        due("most is made", x.about(0, 0, STOCK), 50);
        x.set(0, 0, MAKE, 0);
        x.tick(1);
        due("nothing is made", x.about(0, 0, STOCK), 50);
    }

    private static void useFromNoughtToFifty() {
        EDGE.says("USE each TICK (0 to 50; 0)");
        numberOfShelf(USE, 0, 0, 50);
        StarTrade x = Edge.ports(1);
        x.set(0, 0, STOCK, 60);
        x.set(0, 0, USE, 50);
        x.tick(1);
        due("most is used", x.about(0, 0, STOCK), 10);
        x.set(0, 0, USE, 0);
        x.tick(1);
        due("nothing is used", x.about(0, 0, STOCK), 10);
        due("no hunger", x.about(0, 0, HUNGER), 0);
    }

    private static void baseFromOneToHundred() {
        EDGE.says("BASE (1 to 100; 10)");
        numberOfShelf(BASE, 10, 1, 100);
    }

    private static void idealFromOneToHundred() {
        EDGE.says("IDEAL (1 to 100; 10)");
        numberOfShelf(IDEAL, 10, 1, 100);
    }

    private static void whatOfSet() {
        EDGE.says("3: STOCK (what = 0), .. IDEAL (4)");
        due("first what", Edge.busy().set(0, 0, 0, 7), 28);
        due("last what", Edge.busy().set(0, 0, 4, 7), 10);
        EDGE.outsideOf("what", Edge::busy, (x, what) -> x.set(0, 0, what, 1), 0, 4, OUTSIDE);
        EDGE.refused("5, a price", Edge::busy, x -> x.set(0, 0, 5, 20), OUTSIDE);
        EDGE.refused("6, hunger", Edge::busy, x -> x.set(0, 0, 6, 0), OUTSIDE);
        EDGE.refused("no good or what", Edge::busy, x -> x.set(0, 3, 5, 1), UNKNOWN);
        EDGE.refused("no port or what", Edge::busy, x -> x.set(3, 0, -1, 1), UNKNOWN);
        EDGE.refused("no port, value too great", Edge::busy, x -> x.set(-1, 0, 0, 1001), UNKNOWN);
        EDGE.refused("no good, value too small", Edge::busy, x -> x.set(0, -1, 3, 0), UNKNOWN);
    }

    private static void whatOfAbout() {
        EDGE.says("4: The same; 5 PRICE, 6 HUNGER so far. UNKNOWN; OUTSIDE");
        int[] first = {0, 0, 0, 10, 10, 20, 0};
        for (int what = 0; what < 7; what++) {
            int w = what;
            EDGE.stays("about " + w, () -> Edge.ports(2), x -> x.about(1, 0, w), first[w]);
        }
        EDGE.outsideOf("about", Edge::busy, (x, what) -> x.about(0, 0, what), 0, 6, OUTSIDE);
        EDGE.refused("no port or what", Edge::busy, x -> x.about(3, 0, 7), UNKNOWN);
        EDGE.refused("no good or what", Edge::busy, x -> x.about(0, 3, -1), UNKNOWN);
    }

    private static int priceOf(int base, int ideal, int stock) {
        StarTrade x = Edge.ports(1);
        x.set(0, 1, BASE, base);
        x.set(0, 1, IDEAL, ideal);
        x.set(0, 1, STOCK, stock);
        return x.about(0, 1, PRICE);
    }

    private static void priceOfNoStock() {
        EDGE.says("PRICE: BASE times (twice IDEAL less STOCK) by IDEAL");
        due("nothing there: twice base", priceOf(10, 10, 0), 20);
        due("one there", priceOf(10, 10, 1), 19);
        due("as much as is ideal: base", priceOf(37, 10, 10), 37);
        due("least base, least ideal", priceOf(1, 1, 0), 2);
        due("most base, most ideal", priceOf(100, 100, 0), 200);
        due("most base, least ideal", priceOf(100, 1, 0), 200);
        due("most base, least ideal", priceOf(100, 1, 1), 100);
        due("least base, most ideal", priceOf(1, 100, 0), 2);
    }

    private static void priceOfTwiceIdeal() {
        EDGE.says("twice IDEAL less STOCK, at least 0; PRICE at least 1");
        due("one less than twice", priceOf(30, 10, 19), 3);
        due("twice", priceOf(30, 10, 20), 1);
        due("one more than twice", priceOf(30, 10, 21), 1);
        due("far more", priceOf(100, 1, 1000), 1);
        due("the most of all", priceOf(100, 100, 1000), 1);
        due("one less than twice the most", priceOf(100, 100, 199), 1);
        due("two less than twice the most", priceOf(100, 100, 198), 2);
        due("twice the least", priceOf(100, 1, 2), 1);
    }

    private static void quotientsAreCut() {
        EDGE.says("Quotients are cut");
        due("50 by 3", priceOf(10, 3, 1), 16);
        due("20 by 3", priceOf(10, 3, 4), 6);
        due("199 by 100", priceOf(1, 100, 1), 1);
        due("100 by 100", priceOf(1, 100, 100), 1);
        due("99 by 100 is 0, but at least 1", priceOf(1, 100, 101), 1);
        due("9 by 10 is 0, but at least 1", priceOf(1, 10, 11), 1);
        due("600 by 100", priceOf(5, 100, 80), 6);
        due("595 by 100", priceOf(5, 100, 81), 5);
    }

    // ---- TAX, SHUT, WAYS, and what is told of a PORT

    private static void taxFromNoughtToTwenty() {
        EDGE.says("a TAX (0 to 20; 0); 5: which it was. UNKNOWN; OUTSIDE");
        due("at first", Edge.ports(1).ofPort(0, 0), 0);
        due("which it was", Edge.ports(1).tax(0, 20), 0);
        EDGE.range("tax", Edge::busy, (x, v) -> x.tax(2, v), x -> x.ofPort(2, 0), 0, 20, OUTSIDE);
        EDGE.range("tax of one that has some", Edge::busy, (x, v) -> x.tax(1, v), x -> x.ofPort(1, 0), 0, 20, OUTSIDE);
        StarTrade x = Edge.ports(2);
        x.tax(1, 20);
        due("most was", x.tax(1, 0), 20);
        due("least was", x.tax(1, 0), 0);
        due("of another", x.tax(0, 1), 0);
        EDGE.refused("no port, too great", Edge::busy, y -> y.tax(3, 21), UNKNOWN);
        EDGE.refused("no port, too small", Edge::busy, y -> y.tax(-1, -1), UNKNOWN);
    }

    private static void shutOrNot() {
        EDGE.says("6: A PORT is SHUT, or not: whether it was (1, 0). UNKNOWN");
        StarTrade x = Edge.ports(6);
        due("at first", x.ofPort(5, 3), 0);
        due("open, opened", x.shut(5, false), 0);
        due("open, shut", x.shut(5, true), 0);
        due("shut, shut", x.shut(5, true), 1);
        due("is shut", x.ofPort(5, 3), 1);
        due("another is not", x.ofPort(4, 3), 0);
        due("shut, opened", x.shut(5, false), 1);
        due("is open", x.ofPort(5, 3), 0);
        for (int p : new int[] {-1, 3, MIN, MAX}) {
            EDGE.refused("shut " + p, Edge::busy, y -> y.shut(p, true), UNKNOWN);
            EDGE.refused("open " + p, Edge::busy, y -> y.shut(p, false), UNKNOWN);
        }
    }

    private static void lengthFromOneToNine() {
        EDGE.says("LENGTH (1 to 9 TICKS; 0: there is none, as at first); 7: which it was. OUTSIDE");
        for (int i = 0; i < 36; i++) {
            int a = i / 6;
            int b = i % 6;
            due("at first " + a + " " + b, Edge.ports(6).way(a, b, 9), a == b ? UNKNOWN : 0);
        }
        EDGE.range("way", Edge::busy, (x, v) -> x.way(0, 1, v), x -> x.way(0, 1, 5), 0, 9, OUTSIDE);
        EDGE.range("way where there was none", Edge::busy, (x, v) -> x.way(2, 0, v), x -> x.way(2, 0, 5), 0, 9, OUTSIDE);
        StarTrade x = Edge.busy();
        due("shortest", x.way(0, 1, 1), 2);
        due("a trip of it", x.go(0, 1), 3);
        due("longest", x.way(0, 1, 9), 1);
        due("a trip of it", x.go(0, 0), 12);
        due("none any more", x.way(0, 1, 0), 9);
        due("no trip", x.go(0, 1), NO);
    }

    private static void waysGoBothWays() {
        EDGE.says("7: LENGTH of a WAY, both ways");
        StarTrade x = Edge.ports(6);
        due("way", x.way(0, 5, 9), 0);
        due("is there from the other side", x.way(5, 0, 1), 9);
        due("is changed from the other side", x.way(0, 5, 0), 1);
        due("is none from the other side", x.way(5, 0, 0), 0);
        due("others are none", x.way(4, 5, 0), 0);
        due("others are none", x.way(0, 4, 0), 0);
    }

    private static void oneIsNoWay() {
        EDGE.says("7: UNKNOWN: also they are one");
        for (int p = 0; p < 3; p++) {
            int one = p;
            EDGE.refused("way of one", Edge::busy, x -> x.way(one, one, 1), UNKNOWN);
            EDGE.refused("no way of one", Edge::busy, x -> x.way(one, one, 0), UNKNOWN);
            EDGE.refused("way of one, too long", Edge::busy, x -> x.way(one, one, 10), UNKNOWN);
        }
        EDGE.refused("one that is not there", Edge::busy, x -> x.way(3, 3, 1), UNKNOWN);
        EDGE.refused("no port, too long", Edge::busy, x -> x.way(0, 3, 10), UNKNOWN);
        EDGE.refused("no port, too short", Edge::busy, x -> x.way(-1, 0, -1), UNKNOWN);
    }

    private static void whatOfOfPort() {
        EDGE.says("8: 0 TAX .. 4 HUNGER of all GOODS. UNKNOWN (LOST less 1); OUTSIDE (LOST less 2)");
        StarTrade x = Edge.busy();
        // ship 0 bought at 1 and 1 with 1 of tax each, and sold one at 1, all tax: the stock is far beyond
        int[] first = {1, 3, -1, 0, 0};
        for (int what = 0; what < 5; what++) {
            due("ofPort 0 " + what, x.ofPort(0, what), first[what]);
        }
        due("hunger", x.ofPort(2, 4), 3);
        EDGE.outsideOf("ofPort", Edge::busy, (y, what) -> y.ofPort(0, what), 0, 4, LOST - 2);
        EDGE.refused("no port or what", Edge::busy, y -> y.ofPort(3, 5), LOST - 1);
        EDGE.refused("no port or what", Edge::busy, y -> y.ofPort(-1, -1), LOST - 1);
    }

    // ---- TICKS

    private static int[] afterTick(int stock, int make, int use) {
        StarTrade x = Edge.ports(1);
        x.set(0, 0, STOCK, stock);
        x.set(0, 0, MAKE, make);
        x.set(0, 0, USE, use);
        x.tick(1);
        return new int[] {x.about(0, 0, STOCK), x.about(0, 0, HUNGER), x.told(5), x.told(6), x.ofPort(0, 4)};
    }

    private static void dueTick(String what, int[] seen, int stock, int hunger, int made, int used) {
        due(what + ": stock", seen[0], stock);
        due(what + ": hunger", seen[1], hunger);
        due(what + ": made", seen[2], made);
        due(what + ": used", seen[3], used);
        due(what + ": hunger of all goods", seen[4], hunger);
    }

    private static void stockIsThousandAtMost() {
        EDGE.says("STOCK is more by MAKE (1000 at most, the rest is lost); 17: made so far (without what was lost)");
        dueTick("one below", afterTick(949, 50, 0), 999, 0, 50, 0);
        dueTick("just full", afterTick(950, 50, 0), 1000, 0, 50, 0);
        dueTick("one is lost", afterTick(951, 50, 0), 1000, 0, 49, 0);
        dueTick("all but one is lost", afterTick(999, 50, 0), 1000, 0, 1, 0);
        dueTick("all is lost", afterTick(1000, 50, 0), 1000, 0, 0, 0);
        dueTick("one made for the last place", afterTick(999, 1, 0), 1000, 0, 1, 0);
        dueTick("one made too much", afterTick(1000, 1, 0), 1000, 0, 0, 0);
    }

    private static void madeAheadOfUsed() {
        EDGE.says("STOCK is more by MAKE, then less by USE");
        dueTick("full: lost first, then used", afterTick(1000, 50, 50), 950, 0, 0, 50);
        dueTick("nearly full", afterTick(980, 50, 30), 970, 0, 20, 30);
        dueTick("empty: made is used", afterTick(0, 50, 50), 0, 0, 50, 50);
        dueTick("one more made", afterTick(0, 50, 49), 1, 0, 50, 49);
        dueTick("one less made", afterTick(0, 49, 50), 0, 1, 49, 49);
    }

    private static void whatLacksIsHunger() {
        EDGE.says("where there is less than USE, all is used, and what lacks counts as HUNGER");
        dueTick("one more than use", afterTick(6, 0, 5), 1, 0, 0, 5);
        dueTick("just use", afterTick(5, 0, 5), 0, 0, 0, 5);
        dueTick("one less than use", afterTick(4, 0, 5), 0, 1, 0, 4);
        dueTick("nothing", afterTick(0, 0, 5), 0, 5, 0, 0);
        dueTick("nothing of the most", afterTick(0, 0, 50), 0, 50, 0, 0);
        dueTick("nothing is there nor used", afterTick(0, 0, 0), 0, 0, 0, 0);
        StarTrade x = Edge.ports(1);
        for (int g = 0; g < 3; g++) {
            x.set(0, g, USE, 50);
        }
        Edge.passTo(x, 999);
        due("hunger so far, the most there is", x.about(0, 2, HUNGER), 999 * 50);
        due("hunger of all goods", x.ofPort(0, 4), 3 * 999 * 50);
    }

    private static void ticksAtOnce() {
        EDGE.says("9: n TICKS (1 to 200) go on: NOW. OUTSIDE");
        due("least", Edge.busy().tick(1), 3);
        due("most", Edge.busy().tick(200), 202);
        due("told", Edge.ports(1).told(2), 0);
        EDGE.outsideOf("tick", Edge::busy, StarTrade::tick, 1, 200, OUTSIDE);
        StarTrade one = Edge.busy();
        StarTrade all = Edge.busy();
        for (int i = 0; i < 12; i++) {
            one.tick(1);
        }
        all.tick(12);
        int[] byOne = Edge.look(one);
        int[] atOnce = Edge.look(all);
        for (int i = 0; i < byOne.length; i++) {
            due("12 at once or one by one, answer " + i, atOnce[i], byOne[i]);
        }
    }

    private static void ticksUpTo999() {
        EDGE.says("TICKS 0 to 999; 9: STATE: it would be beyond 999");
        for (int n : new int[] {1, 2, 199, 200}) {
            due("just to 999", Edge.busyAt(999 - n).tick(n), 999);
            if (n < 200) {
                EDGE.refused("one beyond", () -> Edge.busyAt(999 - n), x -> x.tick(n + 1), STATE);
            }
            EDGE.refused("none is left", () -> Edge.busyAt(999), x -> x.tick(n), STATE);
        }
        EDGE.refused("200 of 199", () -> Edge.busyAt(800), x -> x.tick(200), STATE);
        due("199 of 199", Edge.busyAt(800).tick(199), 999);
        EDGE.refused("outside ahead of state", () -> Edge.busyAt(999), x -> x.tick(0), OUTSIDE);
        EDGE.refused("outside ahead of state", () -> Edge.busyAt(999), x -> x.tick(201), OUTSIDE);
        EDGE.refused("outside ahead of state", () -> Edge.busyAt(999), x -> x.tick(MAX), OUTSIDE);
    }

    // ---- EVENTS

    private static void eventsAreTwentyAtMost() {
        EDGE.says("EVENTS, 20 at most; 10: An EVENT: how many are to come. FULL");
        StarTrade x = Edge.ports(6);
        for (int i = 0; i < 20; i++) {
            due("event", x.event(i % 4, 5, 2, 1), i + 1);
            due("to come", x.told(3), i + 1);
        }
        due("one too many", x.event(998, 0, 0, 1), FULL);
        due("another too many", x.event(0, 5, 2, 1), FULL);
        EDGE.refused("event", PortBoundaryTest::fullOfAll, y -> y.event(9, 0, 0, 1), FULL);
        x.tick(1);
        due("five are over", x.told(3), 15);
        due("there is room for five", x.event(1, 5, 2, 1), 16);
        for (int i = 17; i <= 20; i++) {
            due("there is room for five", x.event(998, 5, 2, 1), i);
        }
        due("and no more", x.event(998, 5, 2, 1), FULL);
        due("those that were refused bring nothing", x.about(5, 2, STOCK), 5);
        x.tick(1);
        due("all of tick 1, one of them told late", x.about(5, 2, STOCK), 11);
    }

    private static void eventByThousandAtMost() {
        EDGE.says("is other by so much (-1000 to 1000); 10: OUTSIDE: also by 0");
        for (int by : new int[] {1, 2, 999, 1000}) {
            StarTrade x = Edge.ports(1);
            due("event", x.event(0, 0, 0, by), 1);
            x.tick(1);
            due("brought", x.about(0, 0, STOCK), by);
            due("taken", x.event(1, 0, 0, -by), 1);
            x.tick(1);
            due("taken", x.about(0, 0, STOCK), 0);
        }
        EDGE.outsideOf("by", Edge::busy, (x, by) -> x.event(5, 0, 0, by), -1000, 1000, OUTSIDE);
        EDGE.refused("by 0", Edge::busy, x -> x.event(5, 0, 0, 0), OUTSIDE);
    }

    private static int[] afterEvent(int stock, int by) {
        StarTrade x = Edge.ports(1);
        x.set(0, 0, STOCK, stock);
        x.event(0, 0, 0, by);
        x.tick(1);
        return new int[] {x.about(0, 0, STOCK), x.told(7)};
    }

    private static void dueEvent(int stock, int by, int then) {
        int[] seen = afterEvent(stock, by);
        due(stock + " by " + by, seen[0], then);
        due(stock + " by " + by + " brought", seen[1], then - stock);
    }

    private static void stockIsHeldByEvents() {
        EDGE.says("but held to 0 .. 1000; 17: what EVENTS brought (less what they took)");
        dueEvent(0, 1000, 1000);
        dueEvent(1, 1000, 1000);
        dueEvent(999, 1, 1000);
        dueEvent(998, 1, 999);
        dueEvent(1000, 1, 1000);
        dueEvent(1000, 1000, 1000);
        dueEvent(0, -1000, 0);
        dueEvent(0, -1, 0);
        dueEvent(1, -1, 0);
        dueEvent(2, -1, 1);
        dueEvent(999, -1000, 0);
        dueEvent(1000, -1000, 0);
        dueEvent(1000, -999, 1);
    }

    private static void eventOfATickToCome() {
        EDGE.says("10: OUTSIDE: also a TICK that is over or beyond 998 (NOW is to come)");
        for (int now : new int[] {0, 1, 2, 500, 997, 998}) {
            Edge.World world = () -> worldAt(now);
            due("now", world.make().event(now, 0, 0, 1), 1);
            due("the last", world.make().event(998, 0, 0, 1), 1);
            EDGE.outsideOf("event at " + now, world, (x, tick) -> x.event(tick, 0, 0, 1), now, 998, OUTSIDE);
        }
        for (int tick : new int[] {0, 997, 998, 999, 1000}) {
            EDGE.refused("event " + tick + " at 999", () -> worldAt(999), x -> x.event(tick, 0, 0, 1), OUTSIDE);
        }
        StarTrade x = worldAt(997);
        x.event(998, 0, 0, 7);
        x.tick(1);
        due("not yet", x.about(0, 0, STOCK), 0);
        due("to come", x.told(3), 1);
        x.tick(1);
        due("the last tick brings it", x.about(0, 0, STOCK), 7);
        due("none to come", x.told(3), 0);
    }

    private static StarTrade worldAt(int now) {
        StarTrade x = Edge.ports(1);
        Edge.passTo(x, now);
        return x;
    }

    private static void eventsInToldOrder() {
        EDGE.says("EVENTS of it in the order in which they were told");
        StarTrade x = Edge.ports(2);
        x.event(1, 0, 0, 1000);
        x.event(1, 0, 0, -600);
        x.event(1, 1, 0, -600);
        x.event(1, 1, 0, 1000);
        x.event(0, 0, 0, 5);
        x.event(0, 1, 0, 5);
        x.tick(1);
        due("told last, comes first", x.about(0, 0, STOCK) + x.about(1, 0, STOCK), 10);
        x.tick(1);
        due("held to 1000, then less", x.about(0, 0, STOCK), 400);
        due("held to 0, then more", x.about(1, 0, STOCK), 1000);
        due("brought less took", x.told(7), 5 + 5 + 395 + 995);
    }

    private static void eventsAheadOfMakeAndUse() {
        EDGE.says("A TICK: EVENTS of it; then for each PORT and GOOD STOCK is more by MAKE, then less by USE");
        StarTrade x = Edge.ports(1);
        x.set(0, 0, STOCK, 980);
        x.set(0, 0, MAKE, 10);
        x.set(0, 0, USE, 4);
        x.event(0, 0, 0, 1000);
        x.event(1, 0, 0, -1000);
        x.tick(1);
        due("brought to 1000, so all that is made is lost", x.about(0, 0, STOCK), 996);
        x.tick(1);
        due("all is taken, then 10 are made", x.about(0, 0, STOCK), 6);
        due("made", x.told(5), 10);
        x.set(0, 1, USE, 4);
        x.event(2, 0, 1, 3);
        x.tick(1);
        due("what an event brings is used in that tick", x.about(0, 1, HUNGER), 1);
    }

    private static void refusalsOfEventInOrder() {
        EDGE.says("the first of these that fits: of event UNKNOWN, OUTSIDE, FULL");
        EDGE.refused("all three", PortBoundaryTest::fullOfAll, x -> x.event(1, 6, 0, 0), UNKNOWN);
        EDGE.refused("unknown good and full", PortBoundaryTest::fullOfAll, x -> x.event(9, 0, 3, 1), UNKNOWN);
        EDGE.refused("by 0 and full", PortBoundaryTest::fullOfAll, x -> x.event(9, 0, 0, 0), OUTSIDE);
        EDGE.refused("over and full", PortBoundaryTest::fullOfAll, x -> x.event(1, 0, 0, 1), OUTSIDE);
        EDGE.refused("beyond 998 and full", PortBoundaryTest::fullOfAll, x -> x.event(999, 0, 0, 1), OUTSIDE);
        EDGE.refused("unknown and outside", Edge::busy, x -> x.event(999, -1, 0, 1), UNKNOWN);
        EDGE.refused("unknown and outside", Edge::busy, x -> x.event(5, 0, -1, 0), UNKNOWN);
    }

    private static void setOfStockIsCounted() {
        EDGE.says("17: told by set() for STOCKS (more less less)");
        StarTrade x = Edge.ports(2);
        x.set(1, 2, STOCK, 1000);
        due("more", x.told(8), 1000);
        x.set(1, 2, STOCK, 1000);
        due("the same", x.told(8), 1000);
        x.set(1, 2, STOCK, 0);
        due("less", x.told(8), 0);
        x.set(1, 2, MAKE, 50);
        x.set(1, 2, USE, 7);
        x.set(1, 2, BASE, 70);
        x.set(1, 2, IDEAL, 70);
        due("others are not counted", x.told(8), 0);
        x.tick(1);
        x.set(1, 2, STOCK, 0);
        due("less than was ever told", x.told(8), -43);
        x.set(1, 2, STOCK, 1001);
        due("refused, not counted", x.told(8), -43);
    }

    public static void main(String[] args) {
        newObjectHasNoPorts();
        newObjectHasNoShips();
        newObjectHasFuelOne();
        portsAreSixAtMost();
        portsAreNumberedFromNought();
        goodsAreThree();
        stockFromNoughtToThousand();
        makeFromNoughtToFifty();
        useFromNoughtToFifty();
        baseFromOneToHundred();
        idealFromOneToHundred();
        whatOfSet();
        whatOfAbout();
        priceOfNoStock();
        priceOfTwiceIdeal();
        quotientsAreCut();
        taxFromNoughtToTwenty();
        shutOrNot();
        lengthFromOneToNine();
        waysGoBothWays();
        oneIsNoWay();
        whatOfOfPort();
        stockIsThousandAtMost();
        madeAheadOfUsed();
        whatLacksIsHunger();
        ticksAtOnce();
        ticksUpTo999();
        eventsAreTwentyAtMost();
        eventByThousandAtMost();
        stockIsHeldByEvents();
        eventOfATickToCome();
        eventsInToldOrder();
        eventsAheadOfMakeAndUse();
        refusalsOfEventInOrder();
        setOfStockIsCounted();
        EDGE.end();
    }
}
