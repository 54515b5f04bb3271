/** Long runs of calls on StarTrade and on PlainTrade, call by call; the same runs each time. */
public final class FuzzTest {
    private static final int[] WILD = {-1, -2, -1000, Integer.MIN_VALUE, Integer.MAX_VALUE, 1000000, 1000001, 7, 21};
    private static final Due DUE = new Due();

    private long seed;
    private StarTrade x;
    private PlainTrade y;
    private int ports, ships, now;
    private String run;

    private int below(int n) {
        seed = seed * 6364136223846793005L + 1442695040888963407L;
        return (int) ((seed >>> 33) % n);
    }

    private int from(int least, int most) {
        if (below(40) == 0) {
            return below(2) == 0 ? WILD[below(WILD.length)] : below(2) == 0 ? least - 1 : most + 1;
        }
        int edge = below(12);
        return edge == 0 ? least : edge == 1 ? most : least + below(most - least + 1);
    }

    private int somePort() {
        return from(0, Math.max(0, ports - 1));
    }

    private int someShip() {
        return from(0, Math.max(0, ships - 1));
    }

    private void due(String call, int got, int want) {
        DUE.due(run + " " + call, got, want);
    }

    private void ofPorts(int kind) {
        int p = somePort();
        int g = from(0, 2);
        int what = from(0, 4);
        if (kind == 0) {
            int v = from(what >= 3 ? 1 : 0, what == 0 ? (below(4) == 0 ? 1000 : 40) : what <= 2 ? (below(4) == 0 ? 50 : 5) : 100);
            due("set " + p + " " + g + " " + what + " " + v, x.set(p, g, what, v), y.set(p, g, what, v));
        } else if (kind == 1) {
            int w = from(0, 6);
            due("about " + p + " " + g + " " + w, x.about(p, g, w), y.about(p, g, w));
        } else if (kind == 2) {
            int v = from(0, below(2) == 0 ? 20 : 3);
            due("tax " + p + " " + v, x.tax(p, v), y.tax(p, v));
        } else if (kind == 3) {
            boolean is = below(4) == 0;
            due("shut " + p + " " + is, x.shut(p, is), y.shut(p, is));
        } else if (kind == 4) {
            int q = somePort();
            int v = from(0, 9);
            due("way " + p + " " + q + " " + v, x.way(p, q, v), y.way(p, q, v));
        } else if (kind == 5) {
            due("ofPort " + p + " " + what, x.ofPort(p, what), y.ofPort(p, what));
        } else if (kind == 6) {
            int n = from(1, below(10) == 0 ? 200 : 4);
            due("tick " + n, x.tick(n), y.tick(n));
        } else {
            int t = below(20) == 0 ? from(Math.min(now, 998), 998) : now + below(30);
            int by = from(-1000, 1000) / (below(2) == 0 ? 1 : 20);
            due("event " + t + " " + p + " " + g + " " + by, x.event(t, p, g, by), y.event(t, p, g, by));
        }
    }

    private void ofShips(int kind) {
        int s = someShip();
        int g = from(0, 2);
        int units = from(1, 20);
        if (kind == 0 && below(3) == 0) {
            int p = somePort();
            int c = from(0, below(4) == 0 ? 1000000 : 500);
            due("ship " + p + " " + units + " " + c, x.ship(p, units, c), y.ship(p, units, c));
        } else if (kind <= 2) {
            due("buy " + s + " " + g + " " + units, x.buy(s, g, units), y.buy(s, g, units));
        } else if (kind <= 4) {
            due("sell " + s + " " + g + " " + units, x.sell(s, g, units), y.sell(s, g, units));
        } else if (kind == 5) {
            int p = somePort();
            due("go " + s + " " + p, x.go(s, p), y.go(s, p));
        } else if (kind == 6) {
            int what = below(2) == 0 ? from(0, 3) : from(10, 12);
            due("ofShip " + s + " " + what, x.ofShip(s, what), y.ofShip(s, what));
        } else if (kind == 7) {
            int v = from(0, below(2) == 0 ? 20 : 2);
            due("fuel " + v, x.fuel(v), y.fuel(v));
        } else {
            int what = from(0, 11);
            due("told " + what, x.told(what), y.told(what));
        }
    }

    private void ofSearches(int kind) {
        if (kind == 0) {
            int h = from(1, 20);
            int what = below(2) == 0 ? from(0, 2) : from(10, 15);
            due("ring " + h + " " + what, x.ring(h, what), y.ring(h, what));
        } else if (kind == 1) {
            int s = someShip();
            // PlainTrade copies a world for each trip, so three trips are dear where there are many ports.
            int k = ports <= 3 || below(12) == 0 ? from(1, 3) : from(1, 2);
            due("plan " + s + " " + k, x.plan(s, k), y.plan(s, k));
            for (int i = -1; i < 4; i++) {
                for (int what = -1; what < 3; what++) {
                    due("planned " + i + " " + what, x.planned(i, what), y.planned(i, what));
                }
            }
        } else {
            int p = somePort();
            int g = from(0, 2);
            int t = from(1, 200);
            due("starves " + p + " " + g + " " + t, x.starves(p, g, t), y.starves(p, g, t));
        }
    }

    private void lookAtAll() {
        for (int what = -1; what < 13; what++) {
            due("told " + what, x.told(what), y.told(what));
        }
        for (int p = 0; p < 6; p++) {
            for (int what = 0; what < 5; what++) {
                due("ofPort " + p + " " + what, x.ofPort(p, what), y.ofPort(p, what));
            }
            for (int i = 0; i < 21; i++) {
                due("about " + p + " " + i, x.about(p, i / 7, i % 7), y.about(p, i / 7, i % 7));
            }
        }
        for (int s = 0; s < 4; s++) {
            for (int what = 0; what < 13; what++) {
                due("ofShip " + s + " " + what, x.ofShip(s, what), y.ofShip(s, what));
            }
        }
        for (int h = 1; h < 21; h += 6) {
            for (int what = 0; what < 17; what++) {
                due("ring " + h + " " + what, x.ring(h, what), y.ring(h, what));
            }
        }
    }

    /**
     * Units and ways at the start, so that the calls that follow find something to do; some worlds are rich, so that
     * ships come to the most coins, and some are late, so that trips come to the last tick.
     */
    private void furnish(boolean rich, boolean late) {
        int some = 2 + below(5);
        for (int i = 0; i < some; i++) {
            due("port", x.port(), y.port());
        }
        ports = some;
        for (int i = 0; i < 3 * some; i++) {
            ofPorts(4);
            ofPorts(0);
        }
        for (int i = 0; i < 2; i++) {
            int p = below(some);
            int hold = 1 + below(20);
            int coins = rich ? 1000000 - below(200) : below(400);
            due("ship", x.ship(p, hold, coins), y.ship(p, hold, coins));
        }
        ships = 2;
        for (int end = late ? 960 + below(40) : 0; now < end; now = y.told(2)) {
            int n = Math.min(200, end - now);
            due("tick " + n, x.tick(n), y.tick(n));
        }
    }

    private void one(int number) {
        seed = 1000003L * number + 17;
        run = "fuzz " + number;
        x = new StarTrade();
        y = new PlainTrade();
        ports = 0;
        ships = 0;
        now = 0;
        if (number % 8 != 0) {
            furnish(number % 5 == 1, number % 5 >= 3);
        }
        for (int i = 0; i < 250; i++) {
            int kind = below(24);
            if (kind == 0 && below(4) == 0) {
                due("port", x.port(), y.port());
            } else if (kind < 11) {
                ofPorts(below(8));
            } else if (kind < 21) {
                ofShips(below(9));
            } else {
                ofSearches(below(3));
            }
            ports = y.told(0);
            ships = y.told(1);
            now = y.told(2);
        }
        lookAtAll();
    }

    public static void main(String[] args) {
        int runs = args.length > 0 ? Integer.parseInt(args[0]) : 400;
        FuzzTest fuzz = new FuzzTest();
        for (int number = 0; number < runs; number++) {
            fuzz.one(number);
        }
        DUE.end();
    }
}
