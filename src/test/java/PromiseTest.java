/** For each promise the ordinary, the edges that the document names, and wrong inputs. */
public final class PromiseTest {
    private static final int MIN = Integer.MIN_VALUE, MAX = Integer.MAX_VALUE;
    private static final Due DUE = new Due();

    private static void due(String call, int got, int want) {
        DUE.due(call, got, want);
    }

    private static StarTrade withPorts(int n) {
        StarTrade x = new StarTrade();
        for (int i = 0; i < n; i++) {
            x.port();
        }
        return x;
    }

    private static void newObject() {
        StarTrade x = new StarTrade();
        for (int what = 0; what < 11; what++) {
            due("1 new told " + what, x.told(what), 0);
        }
        due("1 new FUEL", x.told(11), 1);
        due("1 no port", x.about(0, 0, 0), -1);
        due("1 no ship", x.ofShip(0, 0), -1);
        due("1 no plan", x.planned(0, 0), -6);
        due("1 no ring", x.ring(20, 10), -10000005);
        x.port();
        due("1 objects are apart", new StarTrade().told(0), 0);
    }

    private static void port() {
        StarTrade x = new StarTrade();
        for (int i = 0; i < 6; i++) {
            due("2 port", x.port(), i);
            due("2 count", x.told(0), i + 1);
        }
        due("2 seventh", x.port(), -4);
        due("2 count stays", x.told(0), 6);
        int[] first = {0, 0, 0, 10, 10, 20, 0};
        for (int what = 0; what < 7; what++) {
            due("2 first " + what, x.about(5, 2, what), first[what]);
        }
        for (int what = 0; what < 5; what++) {
            due("2 first of port " + what, x.ofPort(5, what), 0);
        }
    }

    private static void set() {
        StarTrade x = withPorts(2);
        int[] least = {0, 0, 0, 1, 1};
        int[] most = {1000, 50, 50, 100, 100};
        int[] first = {0, 0, 0, 10, 10};
        for (int what = 0; what < 5; what++) {
            due("3 set least " + what, x.set(1, 2, what, least[what]), first[what]);
            due("3 set most " + what, x.set(1, 2, what, most[what]), least[what]);
            due("3 below " + what, x.set(1, 2, what, least[what] - 1), -2);
            due("3 beyond " + what, x.set(1, 2, what, most[what] + 1), -2);
            due("3 far " + what, x.set(1, 2, what, MIN) + x.set(1, 2, what, MAX), -4);
            due("3 stays " + what, x.about(1, 2, what), most[what]);
            due("3 others stay " + what, x.about(1, 1, what) + x.about(0, 2, what), 2 * first[what]);
        }
        due("3 no such what", x.set(1, 2, 5, 1), -2);
        due("3 no such what", x.set(1, 2, -1, 1), -2);
        due("3 no such what", x.set(1, 2, MAX, 1) + x.set(1, 2, MIN, 1), -4);
        due("3 unknown first", x.set(2, 0, 9, -9), -1);
        due("3 unknown first", x.set(-1, 0, 9, -9), -1);
        due("3 unknown good", x.set(0, 3, 9, -9) + x.set(0, -1, 0, 0) + x.set(0, MAX, 0, 0), -3);
        due("3 told by set", x.told(8), 1000);
        x.set(1, 2, 0, 400);
        x.set(0, 0, 0, 7);
        due("3 told by set, less less", x.told(8), 407);
    }

    private static void about() {
        StarTrade x = withPorts(1);
        x.set(0, 1, 3, 7);
        x.set(0, 1, 4, 3);
        int[] prices = {14, 11, 9, 7, 4, 2, 1, 1};
        for (int stock = 0; stock < prices.length; stock++) {
            x.set(0, 1, 0, stock);
            due("4 price of stock " + stock, x.about(0, 1, 5), prices[stock]);
        }
        x.set(0, 1, 3, 1);
        x.set(0, 1, 4, 100);
        x.set(0, 1, 0, 150);
        due("4 price is cut, at least 1", x.about(0, 1, 5), 1);
        x.set(0, 1, 3, 100);
        x.set(0, 1, 0, 0);
        due("4 greatest price", x.about(0, 1, 5), 200);
        x.set(0, 1, 0, 1000);
        due("4 stock far beyond", x.about(0, 1, 5), 1);
        x.set(0, 2, 2, 4);
        x.tick(3);
        due("4 hunger", x.about(0, 2, 6), 12);
        due("4 hunger of another", x.about(0, 1, 6), 0);
        due("4 outside", x.about(0, 0, 7) + x.about(0, 0, -1) + x.about(0, 0, MAX) + x.about(0, 0, MIN), -8);
        due("4 unknown", x.about(1, 0, 9) + x.about(-1, 0, 0) + x.about(0, 3, 9) + x.about(0, -1, 0), -4);
    }

    private static void tax() {
        StarTrade x = withPorts(2);
        due("5 tax", x.tax(1, 20), 0);
        due("5 tax was", x.tax(1, 0), 20);
        due("5 tax was", x.tax(1, 5), 0);
        due("5 outside", x.tax(1, 21) + x.tax(1, -1) + x.tax(1, MAX) + x.tax(1, MIN), -8);
        due("5 unknown", x.tax(2, 21) + x.tax(-1, 0), -2);
        due("5 stays", x.ofPort(1, 0), 5);
        due("5 of another", x.ofPort(0, 0), 0);
    }

    private static void shut() {
        StarTrade x = withPorts(2);
        due("6 shut", x.shut(1, true), 0);
        due("6 was shut", x.shut(1, true), 1);
        due("6 is shut", x.ofPort(1, 3), 1);
        due("6 another is not", x.ofPort(0, 3), 0);
        due("6 was shut", x.shut(1, false), 1);
        due("6 was not", x.shut(1, false), 0);
        due("6 unknown", x.shut(2, true) + x.shut(-1, true) + x.shut(MAX, false) + x.shut(MIN, false), -4);
    }

    private static void way() {
        StarTrade x = withPorts(3);
        due("7 way", x.way(0, 1, 9), 0);
        due("7 both ways", x.way(1, 0, 1), 9);
        due("7 both ways", x.way(0, 1, 0), 1);
        due("7 none", x.way(1, 0, 4), 0);
        due("7 another", x.way(0, 2, 4), 0);
        due("7 one", x.way(1, 1, 4) + x.way(1, 1, 99), -2);
        due("7 unknown", x.way(0, 3, 99) + x.way(3, 0, 1) + x.way(-1, 0, 1) + x.way(0, MIN, 1), -4);
        due("7 outside", x.way(0, 1, 10) + x.way(0, 1, -1) + x.way(0, 1, MAX) + x.way(0, 1, MIN), -8);
        due("7 stays", x.way(0, 1, 4), 4);
    }

    private static void ofPort() {
        StarTrade x = withPorts(2);
        x.tax(1, 2);
        x.set(1, 0, 0, 10);
        x.set(1, 1, 2, 3);
        x.set(1, 2, 2, 4);
        x.ship(1, 20, 100);
        x.buy(0, 0, 3);
        x.tick(2);
        x.shut(1, true);
        int[] want = {2, 6, -33, 1, 14};
        for (int what = 0; what < 5; what++) {
            due("8 of port " + what, x.ofPort(1, what), want[what]);
            due("8 of another " + what, x.ofPort(0, what), 0);
        }
        due("8 unknown", x.ofPort(2, 9), -10000001);
        due("8 unknown", x.ofPort(-1, 0), -10000001);
        due("8 outside", x.ofPort(1, 5), -10000002);
        due("8 outside", x.ofPort(1, -1), -10000002);
        due("8 outside", x.ofPort(1, MIN), -10000002);
    }

    private static void tick() {
        StarTrade x = withPorts(2);
        x.set(0, 0, 0, 990);
        x.set(0, 0, 1, 50);
        x.set(0, 0, 2, 30);
        due("9 now", x.tick(1), 1);
        due("9 made to 1000, then used", x.about(0, 0, 0), 970);
        due("9 the rest is lost", x.told(5), 10);
        due("9 used", x.told(6), 30);
        x.set(1, 1, 0, 5);
        x.set(1, 1, 1, 2);
        x.set(1, 1, 2, 9);
        due("9 now", x.tick(1), 2);
        due("9 all is used", x.about(1, 1, 0), 0);
        due("9 what lacks", x.about(1, 1, 6), 2);
        due("9 used with what was made", x.told(6), 67);
        due("9 outside", x.tick(0) + x.tick(201) + x.tick(-1) + x.tick(MAX) + x.tick(MIN), -10);
        for (int i = 0; i < 4; i++) {
            x.tick(200);
        }
        due("9 beyond 999", x.tick(198), -3);
        due("9 outside first", x.tick(201), -2);
        due("9 stays", x.told(2), 802);
        due("9 up to 999", x.tick(197), 999);
        due("9 no more", x.tick(1), -3);
        due("9 hunger", x.about(1, 1, 6), 2 + 997 * 7);
    }

    private static void event() {
        StarTrade x = withPorts(2);
        due("10 held to 1000", x.event(0, 0, 0, 1000), 1);
        due("10 in told order", x.event(0, 0, 0, 1000), 2);
        due("10 in told order", x.event(0, 0, 0, -1), 3);
        due("10 another", x.event(0, 1, 2, -1000), 4);
        x.set(1, 2, 0, 7);
        x.set(1, 2, 1, 3);
        due("10 not yet", x.about(0, 0, 0), 0);
        x.tick(1);
        due("10 in order, held", x.about(0, 0, 0), 999);
        due("10 ahead of making", x.about(1, 2, 0), 3);
        due("10 brought less took", x.told(7), 999 - 7);
        due("10 none to come", x.told(3), 0);
        due("10 is over", x.event(0, 0, 0, 1), -2);
        due("10 by 0", x.event(5, 0, 0, 0), -2);
        due("10 by too much", x.event(5, 0, 0, 1001) + x.event(5, 0, 0, -1001), -4);
        due("10 far", x.event(5, 0, 0, MIN) + x.event(5, 0, 0, MAX) + x.event(MIN, 0, 0, 1) + x.event(MAX, 0, 0, 1), -8);
        due("10 beyond 998", x.event(999, 0, 0, 1), -2);
        due("10 unknown first", x.event(999, 2, 0, 0) + x.event(5, 0, 3, 1) + x.event(5, -1, 0, 1) + x.event(5, 0, -1, 1), -4);
        for (int i = 0; i < 20; i++) {
            due("10 to come", x.event(i < 10 ? 998 - i : 1, 0, 1, 1), i + 1);
        }
        due("10 full", x.event(1, 0, 0, 1), -4);
        due("10 outside ahead of full", x.event(1, 0, 0, 0), -2);
        x.tick(1);
        due("10 those over are no longer to come", x.told(3), 10);
        due("10 all of one tick", x.about(0, 1, 0), 10);
        due("10 room again", x.event(2, 0, 1, 5), 11);
        x.tick(1);
        due("10 told last, comes first", x.about(0, 1, 0), 15);
    }

    private static void eventsOfOneTick() {
        StarTrade x = withPorts(1);
        x.event(4, 0, 0, 700);
        x.event(3, 0, 0, 600);
        x.event(4, 0, 0, -900);
        x.event(3, 0, 0, 500);
        x.event(4, 0, 0, 30);
        x.tick(4);
        due("10 600, then held to 1000", x.about(0, 0, 0), 1000);
        x.tick(1);
        due("10 held to 1000, less 900, and 30", x.about(0, 0, 0), 130);
    }

    private static void ship() {
        StarTrade x = withPorts(2);
        due("11 outside", x.ship(0, 0, 5) + x.ship(0, 21, 5) + x.ship(0, 5, -1) + x.ship(0, 5, 1000001), -8);
        due("11 far", x.ship(0, MIN, 5) + x.ship(0, MAX, 5) + x.ship(0, 5, MIN) + x.ship(0, 5, MAX), -8);
        due("11 unknown first", x.ship(2, 0, -1) + x.ship(-1, 1, 1), -2);
        due("11 none yet", x.told(1), 0);
        due("11 ship", x.ship(1, 20, 1000000), 0);
        due("11 ship", x.ship(0, 1, 0), 1);
        x.shut(0, true);
        due("11 in a shut port", x.ship(0, 2, 3), 2);
        due("11 ship", x.ship(1, 3, 4), 3);
        due("11 full", x.ship(1, 3, 4), -4);
        due("11 outside ahead of full", x.ship(1, 0, 4), -2);
        int[] want = {1, 20, 1000000, 0};
        for (int what = 0; what < 4; what++) {
            due("11 as told " + what, x.ofShip(0, what), want[what]);
        }
        due("11 coins of all", x.told(9), 1000007);
    }

    private static void buy() {
        StarTrade x = withPorts(1);
        x.ship(0, 3, 1000);
        x.set(0, 0, 0, 12);
        x.set(0, 1, 0, 2);
        x.tax(0, 4);
        due("12 buy", x.buy(0, 0, 2), 2);
        due("12 each at its price, and tax", x.ofShip(0, 2), 1000 - 8 - 9 - 8);
        due("12 stock", x.about(0, 0, 0), 10);
        due("12 hold of all goods", x.buy(0, 1, 20), 1);
        due("12 hold is full", x.buy(0, 1, 20), 0);
        due("12 chest", x.ofPort(0, 1), 12);
        due("12 trade", x.ofPort(0, 2), -8 - 9 - 18);
        x.ship(0, 20, 23);
        due("12 all in stock", x.buy(1, 1, 20), 1);
        due("12 exact coins", x.ofShip(1, 2), 0);
        due("12 no coins", x.buy(1, 0, 1), 0);
        due("12 no stock", x.buy(0, 2, 1), 0);
        x.ship(0, 20, 14 + 15 + 14);
        due("12 coins of two", x.buy(2, 0, 3), 2);
        due("12 coins left", x.ofShip(2, 2), 14);
        due("12 outside", x.buy(0, 0, 0) + x.buy(0, 0, 21) + x.buy(0, 0, MIN) + x.buy(0, 0, MAX), -8);
        due("12 unknown", x.buy(3, 0, 0) + x.buy(-1, 0, 1) + x.buy(0, 3, 0) + x.buy(0, -1, 1), -4);
        x.shut(0, true);
        due("12 shut", x.buy(0, 0, 1), -5);
        due("12 outside ahead of shut", x.buy(0, 0, 0), -2);
        due("12 units stay", x.told(4), 14);
    }

    private static void sell() {
        StarTrade x = withPorts(1);
        x.ship(0, 20, 999950);
        x.set(0, 0, 0, 5);
        x.buy(0, 0, 5);
        due("13 coins", x.ofShip(0, 2), 999950 - 85);
        x.tax(0, 2);
        due("13 sell", x.sell(0, 0, 2), 2);
        due("13 with that unit in stock, less tax", x.ofShip(0, 2), 999865 + 17 + 16);
        due("13 chest", x.ofPort(0, 1), 4);
        due("13 trade", x.ofPort(0, 2), -85 + 19 + 18);
        due("13 stock", x.about(0, 0, 0), 2);
        x.set(0, 0, 0, 999);
        x.tax(0, 20);
        due("13 stock of 1000 at most", x.sell(0, 0, 20), 1);
        due("13 tax takes that price at most", x.ofShip(0, 2), 999898);
        due("13 chest takes that price at most", x.ofPort(0, 1), 5);
        x.set(0, 0, 0, 0);
        due("13 cargo", x.sell(0, 0, 20), 2);
        due("13 no more cargo", x.sell(0, 0, 1), 0);
        due("13 outside", x.sell(0, 0, 0) + x.sell(0, 0, 21) + x.sell(0, 0, MIN) + x.sell(0, 0, MAX), -8);
        due("13 unknown", x.sell(1, 0, 0) + x.sell(-1, 0, 1) + x.sell(0, 3, 0) + x.sell(0, -1, 1), -4);
        x.shut(0, true);
        due("13 shut", x.sell(0, 0, 1), -5);
        due("13 outside ahead of shut", x.sell(0, 0, 0), -2);
    }

    private static void sellToMostCoins() {
        StarTrade x = withPorts(1);
        x.ship(0, 5, 1000000);
        x.set(0, 0, 0, 20);
        due("13 bought at 1", x.buy(0, 0, 2), 2);
        x.set(0, 0, 0, 18);
        due("13 1000000 coins at most", x.sell(0, 0, 2), 2);
        due("13 1000000 coins", x.ofShip(0, 2), 1000000);
        x.set(0, 0, 0, 20);
        x.buy(0, 0, 2);
        x.set(0, 0, 0, 17);
        due("13 2 and then 1 is too much", x.sell(0, 0, 2), 1);
        due("13 1000000 coins", x.ofShip(0, 2), 1000000);
        x.tax(0, 20);
        due("13 all is tax", x.sell(0, 0, 2), 1);
    }

    private static void go() {
        StarTrade x = withPorts(3);
        x.set(2, 0, 2, 1);
        x.ship(0, 5, 30);
        x.way(0, 1, 4);
        x.fuel(5);
        due("14 no way", x.go(0, 2), -5);
        due("14 it is there", x.go(0, 0), -5);
        x.shut(1, true);
        due("14 to a shut one", x.go(0, 1), -5);
        x.shut(1, false);
        x.shut(0, true);
        due("14 from a shut one", x.go(0, 1), -5);
        x.shut(0, false);
        x.fuel(8);
        due("14 fuel beyond coins", x.go(0, 1), -5);
        due("14 all stays", x.ofShip(0, 2) + x.told(2) + x.told(10), 30);
        x.fuel(5);
        due("14 a trip", x.go(0, 1), 4);
        due("14 is there", x.ofShip(0, 0), 1);
        due("14 fuel of each tick", x.ofShip(0, 2), 10);
        due("14 ticks for all", x.about(2, 0, 6), 4);
        x.way(0, 1, 2);
        due("14 exact coins, back", x.go(0, 1), -5);
        due("14 exact coins, back", x.go(0, 0), 6);
        due("14 fuel paid", x.told(10), 30);
        due("14 no coins", x.go(0, 1), -5);
        x.fuel(0);
        due("14 fuel for nothing", x.go(0, 1), 8);
        due("14 unknown", x.go(1, 0) + x.go(-1, 0) + x.go(0, 3) + x.go(0, -1) + x.go(MAX, MIN), -5);
    }

    private static void goAtTheEnd() {
        StarTrade x = withPorts(3);
        x.ship(0, 5, 3);
        x.way(0, 1, 4);
        for (int i = 0; i < 4; i++) {
            x.tick(199);
        }
        x.tick(200);
        due("14 beyond 999, whatever else", x.go(0, 1), -3);
        x.shut(1, true);
        due("14 beyond 999, whatever else", x.go(0, 1), -3);
        due("14 no way", x.go(0, 2), -5);
        due("14 it is there", x.go(0, 0), -5);
        x.shut(1, false);
        x.way(0, 1, 3);
        due("14 up to 999", x.go(0, 1), 999);
        due("14 it is there", x.go(0, 1), -5);
        due("14 beyond", x.go(0, 0), -3);
    }

    private static void ofShip() {
        StarTrade x = withPorts(2);
        for (int g = 0; g < 3; g++) {
            x.set(1, g, 0, 20);
        }
        x.ship(0, 9, 100);
        x.ship(1, 9, 100);
        x.buy(1, 0, 1);
        x.buy(1, 1, 2);
        x.buy(1, 2, 3);
        int[] want = {1, 9, 93, 6};
        for (int what = 0; what < 4; what++) {
            due("15 of ship " + what, x.ofShip(1, what), want[what]);
        }
        for (int g = 0; g < 3; g++) {
            due("15 cargo " + g, x.ofShip(1, 10 + g), g + 1);
            due("15 of another " + g, x.ofShip(0, 10 + g), 0);
        }
        due("15 outside", x.ofShip(1, 4) + x.ofShip(1, 9) + x.ofShip(1, 13) + x.ofShip(1, -1) + x.ofShip(1, MIN), -10);
        due("15 unknown", x.ofShip(2, 4) + x.ofShip(-1, 0), -2);
    }

    private static void fuel() {
        StarTrade x = new StarTrade();
        due("16 fuel", x.fuel(20), 1);
        due("16 fuel", x.fuel(0), 20);
        due("16 fuel", x.fuel(7), 0);
        due("16 outside", x.fuel(21) + x.fuel(-1) + x.fuel(MAX) + x.fuel(MIN), -8);
        due("16 stays", x.told(11), 7);
    }

    /** As many ports, ships and goods as there may be, so that nothing is left out or reached beyond. */
    private static void allThereMayBe() {
        StarTrade x = withPorts(6);
        for (int i = 0; i < 18; i++) {
            x.set(i / 3, i % 3, 0, 20);
            x.set(i / 3, i % 3, 1, 2);
        }
        for (int s = 0; s < 4; s++) {
            x.ship(5, 9, 100);
            due("17 bought", x.buy(s, s % 3, 2), 2);
        }
        due("17 units of all", x.told(4), 360);
        due("17 event kept", x.event(9, 5, 2, 1), 1);
        due("17 now", x.tick(3), 3);
        due("17 units of all", x.told(4), 360 + 3 * 36);
        due("17 event kept", x.told(3), 1);
        x.way(4, 5, 1);
        due("19 the last ports, empty", x.plan(3, 1), x.ofShip(3, 2) - 1);
        due("20 the last ports, empty", x.planned(0, 0), 4);
        due("20 the last ports, empty", x.planned(0, 1), 3);
        due("18 the last ports", x.ring(1, 11), 5);
        x.set(0, 0, 2, 50);
        x.set(0, 1, 2, 40);
        x.set(0, 2, 2, 30);
        x.tick(1);
        due("8 hunger of all goods", x.ofPort(0, 4), (50 - 28) + (40 - 28) + (30 - 28));
        StarTrade y = withPorts(1);
        y.tick(1);
        due("17 no events to come", y.told(3), 0);
    }

    private static void told() {
        StarTrade x = withPorts(2);
        x.set(0, 0, 0, 20);
        x.set(0, 0, 1, 4);
        x.set(1, 1, 2, 3);
        x.way(0, 1, 2);
        x.ship(0, 6, 50);
        x.ship(1, 6, 60);
        x.event(1, 1, 1, 7);
        x.event(9, 0, 2, 7);
        x.buy(0, 0, 2);
        x.go(0, 1);
        x.fuel(3);
        // made 8; tick 0 lacks 3, tick 1 uses 3 of the 7 that were brought
        int[] want = {2, 2, 2, 1, 20 + 8 - 3 + 7, 8, 3, 7, 20, 50 - 2 - 2 + 60, 2, 3};
        for (int what = 0; what < want.length; what++) {
            due("17 told " + what, x.told(what), want[what]);
        }
        due("17 outside", x.told(12), -10000002);
        due("17 outside", x.told(-1), -10000002);
        due("17 outside", x.told(MAX), -10000002);
        due("17 outside", x.told(MIN), -10000002);
    }

    private static void dueRing(String what, StarTrade x, int hold, int... want) {
        for (int i = 0; i < 3; i++) {
            due(what + " " + i, x.ring(hold, i), want[i]);
        }
        for (int i = 0; i < 8; i++) {
            due(what + " port " + i, x.ring(hold, 10 + i), i < want[2] ? want[3 + i] : -6);
        }
    }

    private static void ring() {
        StarTrade x = withPorts(6);
        due("18 no way", x.ring(1, 0), -10000005);
        for (int i = 0; i < 6; i++) {
            x.way(i, (i + 1) % 6, 1);
        }
        x.fuel(0);
        dueRing("18 fewest, then first by numbers", x, 3, 0, 2, 2, 0, 1);
        int[] stocks = {15, 5, 0};
        for (int i = 0; i < 6; i++) {
            for (int g = 0; g < 3; g++) {
                x.set(i, g, 0, stocks[(i + g) % 3]);
            }
        }
        // to the next lower port one good rises from 5 to 20, to the next higher one only from 5 to 15
        dueRing("18 all ports", x, 3, 3 * 90, 6, 6, 0, 5, 4, 3, 2, 1);
        due("18 unfit hold", x.ring(0, 0), -10000002);
        due("18 unfit hold", x.ring(21, 10), -10000002);
        due("18 unfit hold", x.ring(MIN, 0), -10000002);
        due("18 unfit what", x.ring(1, 3), -10000002);
        due("18 unfit what", x.ring(1, 9), -10000002);
        due("18 unfit what", x.ring(1, -1), -10000002);
        due("18 unfit what", x.ring(1, MIN), -10000002);
        for (int i = 0; i < 6; i++) {
            x.shut(i, true);
        }
        due("18 all shut", x.ring(1, 10), -10000005);
        due("18 outside first", x.ring(21, 0), -10000002);
        x.shut(3, false);
        due("18 one is no ring", x.ring(1, 0), -10000005);
        x.shut(4, false);
        due("18 two are", x.ring(1, 10), 3);
    }

    /** Three ports, each good dear in one and cheap in the one ahead of it: the round trip pays, one way round. */
    private static StarTrade triangle() {
        StarTrade x = withPorts(3);
        x.way(0, 1, 1);
        x.way(1, 2, 1);
        x.way(2, 0, 1);
        int[][] stocks = {{15, 0, 10}, {10, 15, 0}, {0, 10, 15}};
        for (int p = 0; p < 3; p++) {
            for (int g = 0; g < 3; g++) {
                x.set(p, g, 0, stocks[p][g]);
            }
        }
        return x;
    }

    private static void ringOfThree() {
        // prices 5 20 10 | 10 5 20 | 20 10 5: 0 to 1 gains 10, 1 to 0 15; so 0 2 1 gains 45 in 3, 0 1 25 in 2
        StarTrade x = triangle();
        dueRing("18 one way round pays more", x, 2, 2 * 45 - 3, 3, 3, 0, 2, 1);
        x.fuel(20);
        dueRing("18 fuel", x, 1, 45 - 60, 3, 3, 0, 2, 1);
        x.tax(1, 3);
        // 0 2 1: 15 + 12 + 12 in 3; 0 2: 10 + 15 in 2
        dueRing("18 taxes of both", x, 10, 390 - 60, 3, 3, 0, 2, 1);
        x.tax(1, 4);
        // 15 + 11 + 11 in 3 against 25 in 2
        dueRing("18 taxes of both", x, 10, 250 - 40, 2, 2, 0, 2);
        x.tax(1, 20);
        x.tax(0, 20);
        x.tax(2, 20);
        dueRing("18 never less than 0 for goods", x, 20, -40, 2, 2, 0, 1);
    }

    private static void ringExactly() {
        StarTrade x = triangle();
        x.fuel(0);
        x.set(2, 0, 0, 7);
        x.set(1, 2, 0, 10);
        due("18 price", x.about(2, 0, 5), 13);
        // prices 5 20 10 | 10 5 10 | 13 10 5; 0 2: 8 + 10; 0 1: 5 + 15; 1 2: 5 + 5; 0 2 1: 8 + 5 + 15; 0 1 2: 5 + 5 + 10
        dueRing("18 greater", x, 1, 20, 2, 2, 0, 1);
        x.way(0, 1, 2);
        // 0 2 18/2, 0 2 1 28/4, 0 1 20/4
        dueRing("18 by lengths", x, 1, 18, 2, 2, 0, 2);
        x.way(0, 2, 2);
        x.way(0, 1, 1);
        x.set(1, 0, 0, 9);
        // 0 1: 6 + 15 = 21/2; 0 2 1: 8 + 5 + 15 = 28/4
        dueRing("18 not in lowest terms", x, 2, 42, 2, 2, 0, 1);
        StarTrade y = withPorts(4);
        y.fuel(0);
        y.way(0, 1, 3);
        y.way(2, 3, 2);
        y.set(0, 0, 0, 10);
        y.set(2, 0, 0, 13);
        // 10/6 against 13/4
        dueRing("18 second pair", y, 1, 13, 4, 2, 2, 3);
        y.set(2, 0, 0, 7);
        y.way(0, 1, 3);
        // 10/6 against 7/4: both cut are 1
        dueRing("18 compared exactly", y, 1, 7, 4, 2, 2, 3);
        y.set(2, 0, 0, 6);
        // 10/6 against 6/4
        dueRing("18 compared exactly", y, 1, 10, 6, 2, 0, 1);
        y.set(0, 0, 0, 9);
        // 9/6 against 6/4 are one
        dueRing("18 equal quotients", y, 1, 9, 6, 2, 0, 1);
        y.way(2, 3, 6);
        y.set(2, 0, 0, 19);
        // 9/6 against 19/12, and then against 17/12
        dueRing("18 a little more", y, 1, 19, 12, 2, 2, 3);
        y.set(2, 0, 0, 17);
        dueRing("18 a little less", y, 1, 9, 6, 2, 0, 1);
        y.way(0, 1, 4);
        y.way(2, 3, 7);
        y.set(0, 0, 0, 8);
        y.set(2, 0, 0, 14);
        dueRing("18 8/8 and 14/14 are one", y, 1, 8, 8, 2, 0, 1);
        y.set(2, 0, 0, 15);
        y.set(0, 0, 0, 9);
        dueRing("18 9/8 against 15/14", y, 1, 9, 8, 2, 0, 1);
        y.way(0, 1, 5);
        y.set(0, 0, 0, 7);
        y.set(2, 0, 0, 10);
        // 7/10 against 10/14: 98 against 100
        dueRing("18 by least of all", y, 1, 10, 14, 2, 2, 3);
    }

    private static void fewestPorts() {
        StarTrade x = triangle();
        x.fuel(0);
        x.port();
        x.port();
        x.way(3, 4, 1);
        x.set(3, 0, 0, 15);
        x.set(4, 1, 0, 15);
        // 0 2 1: 45 in 3; 3 4: 15 + 15 in 2
        dueRing("18 of equals the fewest ports", x, 1, 30, 2, 2, 3, 4);
        x.set(4, 1, 0, 14);
        // 15 + 14 in 2
        dueRing("18 the greatest whatever its ports", x, 1, 45, 3, 3, 0, 2, 1);
        x.set(4, 1, 0, 15);
        x.set(4, 0, 0, 1);
        x.set(2, 0, 0, 2);
        // 13 + 15 + 15 in 3 against 14 + 15 in 2: 86 against 87
        dueRing("18 greater by the least", x, 1, 29, 2, 2, 3, 4);
    }

    private static void duePlan(String what, StarTrade x, int ship, int k, int... want) {
        due(what + " coins", x.plan(ship, k), want[0]);
        for (int i = 0; i < 4; i++) {
            due(what + " port of trip " + i, x.planned(i, 0), i < k ? want[1 + 2 * i] : -6);
            due(what + " good of trip " + i, x.planned(i, 1), i < k ? want[2 + 2 * i] : -6);
        }
    }

    private static void plan() {
        StarTrade x = withPorts(3);
        x.ship(0, 4, 100);
        due("19 no way", x.plan(0, 1), -5);
        due("20 none found yet", x.planned(0, 0), -6);
        x.way(0, 1, 3);
        duePlan("19 nothing to buy, first good", x, 0, 1, 97, 1, 0);
        x.set(0, 0, 0, 20);
        // 1 1 2 3 are paid, and 3 for fuel; sold at 19 18 17 16
        duePlan("19 one trip", x, 0, 1, 160, 1, 0);
        x.set(0, 0, 0, 17);
        x.set(1, 0, 2, 1);
        x.set(1, 0, 0, 15);
        // bought at 3 4 5 6; stock falls to 12 on the way; sold at 7 6 5 4
        duePlan("19 prices move on the way", x, 0, 1, 101, 1, 0);
        x.event(1, 1, 0, 1);
        // 13: 6 5 4 3 pays no more than it cost, and is first all the same
        duePlan("19 an event on the way", x, 0, 1, 97, 1, 0);
        x.event(2, 1, 0, 2);
        duePlan("19 nothing pays: none, by the first empty good", x, 0, 1, 97, 1, 1);
        x.event(3, 1, 0, -1000);
        duePlan("19 an event too late", x, 0, 1, 97, 1, 1);
        due("19 outside", x.plan(0, 0) + x.plan(0, 4) + x.plan(0, MIN) + x.plan(0, MAX), -8);
        due("19 unknown", x.plan(1, 0) + x.plan(-1, 1), -2);
        due("19 all stays", x.ofShip(0, 2) + x.told(2) + x.told(3) + x.about(0, 0, 0) + x.about(1, 0, 0), 100 + 3 + 17 + 15);
        due("20 the latest stays", x.planned(0, 1), 1);
    }

    private static void planOfSeveral() {
        StarTrade x = withPorts(3);
        x.way(0, 1, 1);
        x.way(1, 2, 1);
        x.ship(0, 2, 50);
        x.set(1, 2, 0, 20);
        // the first trip is empty, then 1 1 are paid; sold at 19 18
        duePlan("19 two trips", x, 0, 2, 50 - 2 - 2 + 37, 1, 0, 0, 2);
        x.way(0, 1, 0);
        due("19 a plan has all k", x.plan(0, 2), -5);
        duePlanned("20 the latest that found one", x, 1, 0, 0, 2);
        x.way(0, 1, 1);
        x.tax(1, 8);
        // 9 9 are paid, of 19 18 nothing is taken in 0
        duePlan("19 taxes", x, 0, 2, 50 - 2 - 18 + 37, 1, 0, 0, 2);
        x.tax(0, 20);
        x.set(2, 2, 0, 1);
        // in 2: 18 17
        duePlan("19 taxes where it is sold", x, 0, 2, 50 - 2 - 18 + 35, 1, 0, 2, 2);
        x.shut(2, true);
        // sold in 0, all is tax there: going empty pays more
        duePlan("19 blockade", x, 0, 2, 48, 1, 0, 0, 0);
        x.shut(0, true);
        due("19 shut in", x.plan(0, 1), -5);
        duePlanned("20 the latest that found one", x, 1, 0, 0, 0);
        due("20 none such", x.planned(-1, 0) + x.planned(2, 0) + x.planned(MAX, 0) + x.planned(MIN, 0), -24);
        due("20 none such", x.planned(0, 2) + x.planned(0, -1) + x.planned(0, MAX) + x.planned(0, MIN), -24);
    }

    private static void duePlanned(String what, StarTrade x, int... want) {
        for (int i = 0; i < want.length; i++) {
            due(what + " " + i, x.planned(i / 2, i % 2), want[i]);
        }
    }

    private static void planOfThree() {
        StarTrade x = withPorts(2);
        x.way(0, 1, 1);
        x.fuel(0);
        x.set(0, 0, 0, 20);
        x.set(1, 1, 0, 20);
        x.ship(0, 2, 10);
        // 1 1, sold 19 18; back 1 1, sold 19 18; then 2 3 in 0, sold at 17 16
        duePlan("19 three trips, what was done stays done", x, 0, 3, 10 - 2 + 37 - 2 + 37 - 5 + 33, 1, 0, 0, 1, 1, 0);
        x.set(0, 0, 2, 10);
        // what is left in 0 is used up on the way: no third load
        duePlan("19 ports go on using", x, 0, 3, 10 - 2 + 37 - 2 + 37, 1, 0, 0, 1, 1, 0);
        x.set(0, 0, 1, 12);
        // 20 - 2, and 2 more each tick: 20 and then 22 less nothing: 22 when it is back, so 1 1
        duePlan("19 ports go on making", x, 0, 3, 10 - 2 + 37 - 2 + 37 - 2 + 33, 1, 0, 0, 1, 1, 0);
        x.set(1, 0, 1, 1);
        // sold at 18 17; the 3 that lie there then are 5 two ticks on: sold at 14 13
        duePlan("19 ticks behind a sale", x, 0, 3, 10 - 2 + 35 - 2 + 37 - 2 + 27, 1, 0, 0, 1, 1, 0);
    }

    private static void planOfAPoorShip() {
        StarTrade x = withPorts(2);
        x.way(0, 1, 5);
        x.set(0, 0, 0, 10);
        x.set(0, 1, 0, 12);
        x.ship(0, 20, 15);
        // of good 0 one is bought for 10, 5 pay the fuel; of good 1 one for 8; either is sold at 19
        duePlan("19 fuel is paid of what is left", x, 0, 1, 21, 1, 1);
        x.set(0, 1, 0, 14);
        // of good 1 two for 6 and 7: 2 do not pay the fuel
        duePlan("19 fuel beyond what is left", x, 0, 1, 19, 1, 0);
        x.fuel(2);
        duePlan("19 only empty", x, 0, 1, 5, 1, 2);
        x.set(0, 2, 0, 20);
        // 1 1 2 3 4, then 4 left
        duePlan("19 only with none", x, 0, 1, 5, 1, 3);
        x.fuel(4);
        due("19 fuel beyond coins", x.plan(0, 1), -5);
        x.fuel(3);
        due("19 all coins for fuel", x.plan(0, 1), 0);
        due("19 and then no more", x.plan(0, 2), -5);
    }

    private static void planOfALadenShip() {
        StarTrade x = withPorts(2);
        x.way(0, 1, 1);
        x.set(0, 0, 0, 20);
        x.set(0, 1, 0, 20);
        x.ship(0, 3, 100);
        due("19 laden", x.buy(0, 0, 3), 3);
        due("19 coins", x.ofShip(0, 2), 96);
        // 1 1 2 for good 1, sold at 19 18 17
        duePlan("19 cargo is left aside", x, 0, 1, 96 - 4 - 1 + 54, 1, 1);
        due("19 cargo stays", x.ofShip(0, 10), 3);
        x.set(1, 1, 0, 999);
        x.set(1, 0, 0, 1000);
        // of good 1 one is sold at 1
        duePlan("19 as many as can be", x, 0, 1, 95, 1, 2);
        x.ship(0, 20, 1000000);
        x.fuel(0);
        x.set(1, 1, 0, 17);
        x.set(0, 1, 0, 40);
        // 20 are paid with 20 1s; sold at 2, then 1 up to the most coins
        duePlan("19 coins at most", x, 1, 1, 1000000, 1, 1);
        x.set(0, 1, 0, 0);
        duePlan("19 coins at most", x, 1, 1, 1000000, 1, 1);
    }

    private static void planAtTheEnd() {
        StarTrade x = withPorts(2);
        x.way(0, 1, 2);
        x.ship(0, 2, 50);
        for (int i = 0; i < 5; i++) {
            x.tick(199);
        }
        due("19 up to 999", x.plan(0, 2), 46);
        due("19 beyond 999", x.plan(0, 3), -5);
        due("20 of the plan that was found", x.planned(1, 0), 0);
        due("20 of the plan that was found", x.planned(2, 0), -6);
        due("19 now", x.told(2), 995);
    }

    private static void starves() {
        StarTrade x = withPorts(2);
        x.set(1, 2, 0, 10);
        x.set(1, 2, 1, 2);
        x.set(1, 2, 2, 5);
        // 7 4 1, and in tick 3 there are 3 of 5
        due("21 starves", x.starves(1, 2, 200), 3);
        due("21 in the last of t", x.starves(1, 2, 4), 3);
        due("21 not within t", x.starves(1, 2, 3), -6);
        due("21 exact use is none", x.starves(1, 1, 200), -6);
        x.event(3, 1, 2, 2);
        due("21 an event helps", x.starves(1, 2, 200), 4);
        x.event(2, 1, 2, -2);
        due("21 an event harms", x.starves(1, 2, 200), 2);
        x.event(0, 1, 1, 1000);
        x.event(0, 0, 2, 1000);
        due("21 events of others", x.starves(1, 2, 200), 2);
        due("21 all stays", x.told(2) + x.about(1, 2, 0) + x.about(1, 2, 6) + x.told(3) + x.told(6), 10 + 4);
        x.tick(5);
        due("21 it came", x.about(1, 2, 6), 1 + 1 + 3);
        due("21 from now on", x.starves(1, 2, 1), 5);
        due("21 outside", x.starves(1, 2, 0) + x.starves(1, 2, 201) + x.starves(1, 2, MIN) + x.starves(1, 2, MAX), -8);
        due("21 unknown", x.starves(2, 0, 0) + x.starves(-1, 0, 1) + x.starves(0, 3, 0) + x.starves(0, -1, 1), -4);
    }

    private static void starvesAtTheEnd() {
        StarTrade x = withPorts(1);
        x.set(0, 0, 0, 999);
        x.set(0, 0, 2, 1);
        for (int i = 0; i < 4; i++) {
            x.tick(200);
        }
        due("21 up to 999", x.starves(0, 0, 200), -6);
        x.set(0, 0, 0, 198);
        due("21 in the last tick", x.starves(0, 0, 200), 998);
        x.tick(199);
        due("21 no more ticks", x.starves(0, 0, 200), -6);
    }

    private static void constants() {
        due("UNKNOWN", StarTrade.UNKNOWN, -1);
        due("OUTSIDE", StarTrade.OUTSIDE, -2);
        due("STATE", StarTrade.STATE, -3);
        due("FULL", StarTrade.FULL, -4);
        due("NO", StarTrade.NO, -5);
        due("NONE", StarTrade.NONE, -6);
        due("LOST", StarTrade.LOST, -10000000);
    }

    public static void main(String[] args) {
        constants();
        newObject();
        port();
        set();
        about();
        tax();
        shut();
        way();
        ofPort();
        tick();
        event();
        eventsOfOneTick();
        ship();
        buy();
        sell();
        sellToMostCoins();
        go();
        goAtTheEnd();
        ofShip();
        fuel();
        told();
        allThereMayBe();
        ring();
        ringOfThree();
        ringExactly();
        fewestPorts();
        plan();
        planOfSeveral();
        planOfThree();
        planOfAPoorShip();
        planOfALadenShip();
        planAtTheEnd();
        starves();
        starvesAtTheEnd();
        DUE.end();
    }
}
