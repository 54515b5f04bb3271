import java.util.ArrayList;
import java.util.List;

/**
 * The document once more, as slowly and plainly as can be: whole worlds are copied, all shelves go tick by tick,
 * all rings and plans are listed and only then compared. FuzzTest holds StarTrade against it.
 */
final class PlainTrade {
    static final int UNKNOWN = -1, OUTSIDE = -2, STATE = -3, FULL = -4, NO = -5, NONE = -6, LOST = -10000000;

    private int ports, ships, now, fuel = 1;
    // shelf[port][good] = STOCK, MAKE, USE, BASE, IDEAL, (price is reckoned), HUNGER
    private int[][][] shelf = new int[6][3][7];
    private int[] tax = new int[6], chest = new int[6], trade = new int[6];
    private boolean[] shut = new boolean[6];
    private int[][] ways = new int[6][6];
    private List<int[]> events = new ArrayList<>();
    private int[] at = new int[4], hold = new int[4], coins = new int[4];
    private int[][] cargo = new int[4][3];
    private int made, used, brought, stocked, paid;
    private List<int[]> latest = new ArrayList<>();

    PlainTrade() {
        for (int[][] port : shelf) {
            for (int[] good : port) {
                good[3] = 10;
                good[4] = 10;
            }
        }
    }

    private PlainTrade copy() {
        PlainTrade c = new PlainTrade();
        c.ports = ports;
        c.ships = ships;
        c.now = now;
        c.fuel = fuel;
        for (int p = 0; p < 6; p++) {
            for (int g = 0; g < 3; g++) {
                c.shelf[p][g] = shelf[p][g].clone();
            }
            c.ways[p] = ways[p].clone();
        }
        c.tax = tax.clone();
        c.shut = shut.clone();
        c.events = new ArrayList<>(events);
        c.at = at.clone();
        c.hold = hold.clone();
        c.coins = coins.clone();
        for (int s = 0; s < 4; s++) {
            c.cargo[s] = cargo[s].clone();
        }
        return c;
    }

    private boolean noPort(int p) {
        return p < 0 || p >= ports;
    }

    private boolean noGood(int g) {
        return g < 0 || g > 2;
    }

    private boolean noShip(int s) {
        return s < 0 || s >= ships;
    }

    private int price(int p, int g, int stock) {
        int[] s = shelf[p][g];
        int price = s[3] * (2 * s[4] - stock > 0 ? 2 * s[4] - stock : 0) / s[4];
        return price < 1 ? 1 : price;
    }

    int port() {
        return ports == 6 ? FULL : ports++;
    }

    int set(int p, int g, int what, int v) {
        if (noPort(p) || noGood(g)) return UNKNOWN;
        if (what < 0 || what > 4) return OUTSIDE;
        int low = what >= 3 ? 1 : 0;
        int high = what == 0 ? 1000 : what <= 2 ? 50 : 100;
        if (v < low || v > high) return OUTSIDE;
        int was = shelf[p][g][what];
        shelf[p][g][what] = v;
        if (what == 0) stocked += v - was;
        return was;
    }

    int about(int p, int g, int what) {
        if (noPort(p) || noGood(g)) return UNKNOWN;
        if (what < 0 || what > 6) return OUTSIDE;
        return what == 5 ? price(p, g, shelf[p][g][0]) : shelf[p][g][what];
    }

    int tax(int p, int v) {
        if (noPort(p)) return UNKNOWN;
        if (v < 0 || v > 20) return OUTSIDE;
        int was = tax[p];
        tax[p] = v;
        return was;
    }

    int shut(int p, boolean is) {
        if (noPort(p)) return UNKNOWN;
        boolean was = shut[p];
        shut[p] = is;
        return was ? 1 : 0;
    }

    int way(int a, int b, int length) {
        if (noPort(a) || noPort(b) || a == b) return UNKNOWN;
        if (length < 0 || length > 9) return OUTSIDE;
        int was = ways[a][b];
        ways[a][b] = ways[b][a] = length;
        return was;
    }

    int ofPort(int p, int what) {
        if (noPort(p)) return LOST - 1;
        if (what == 0) return tax[p];
        if (what == 1) return chest[p];
        if (what == 2) return trade[p];
        if (what == 3) return shut[p] ? 1 : 0;
        if (what == 4) return shelf[p][0][6] + shelf[p][1][6] + shelf[p][2][6];
        return LOST - 2;
    }

    private void oneTick() {
        for (int[] e : events) {
            if (e[0] == now) {
                int[] s = shelf[e[1]][e[2]];
                int then = s[0] + e[3];
                if (then < 0) then = 0;
                if (then > 1000) then = 1000;
                brought += then - s[0];
                s[0] = then;
            }
        }
        events.removeIf(e -> e[0] == now);
        for (int p = 0; p < ports; p++) {
            for (int g = 0; g < 3; g++) {
                int[] s = shelf[p][g];
                for (int i = 0; i < s[1]; i++) {
                    if (s[0] < 1000) {
                        s[0]++;
                        made++;
                    }
                }
                for (int i = 0; i < s[2]; i++) {
                    if (s[0] > 0) {
                        s[0]--;
                        used++;
                    } else {
                        s[6]++;
                    }
                }
            }
        }
        now++;
    }

    int tick(int n) {
        if (n < 1 || n > 200) return OUTSIDE;
        if (now + n > 999) return STATE;
        for (int i = 0; i < n; i++) oneTick();
        return now;
    }

    int event(int tick, int p, int g, int by) {
        if (noPort(p) || noGood(g)) return UNKNOWN;
        if (tick < now || tick > 998 || by == 0 || by < -1000 || by > 1000) return OUTSIDE;
        if (events.size() == 20) return FULL;
        events.add(new int[] {tick, p, g, by});
        return events.size();
    }

    int ship(int p, int h, int c) {
        if (noPort(p)) return UNKNOWN;
        if (h < 1 || h > 20 || c < 0 || c > 1000000) return OUTSIDE;
        if (ships == 4) return FULL;
        at[ships] = p;
        hold[ships] = h;
        coins[ships] = c;
        return ships++;
    }

    private int load(int s) {
        return cargo[s][0] + cargo[s][1] + cargo[s][2];
    }

    private boolean buyOne(int s, int g) {
        int p = at[s];
        int stock = shelf[p][g][0];
        int price = price(p, g, stock);
        if (stock == 0 || load(s) == hold[s] || coins[s] < price + tax[p]) return false;
        coins[s] -= price + tax[p];
        shelf[p][g][0]--;
        cargo[s][g]++;
        trade[p] -= price;
        chest[p] += tax[p];
        return true;
    }

    private boolean sellOne(int s, int g) {
        int p = at[s];
        int stock = shelf[p][g][0];
        int price = price(p, g, stock + 1);
        int duty = tax[p] > price ? price : tax[p];
        if (stock == 1000 || cargo[s][g] == 0 || coins[s] + price - duty > 1000000) return false;
        coins[s] += price - duty;
        shelf[p][g][0]++;
        cargo[s][g]--;
        trade[p] += price;
        chest[p] += duty;
        return true;
    }

    int buy(int s, int g, int units) {
        if (noShip(s) || noGood(g)) return UNKNOWN;
        if (units < 1 || units > 20) return OUTSIDE;
        if (shut[at[s]]) return NO;
        int n = 0;
        while (n < units && buyOne(s, g)) n++;
        return n;
    }

    int sell(int s, int g, int units) {
        if (noShip(s) || noGood(g)) return UNKNOWN;
        if (units < 1 || units > 20) return OUTSIDE;
        if (shut[at[s]]) return NO;
        int n = 0;
        while (n < units && sellOne(s, g)) n++;
        return n;
    }

    int go(int s, int p) {
        if (noShip(s) || noPort(p)) return UNKNOWN;
        int length = at[s] == p ? 0 : ways[at[s]][p];
        if (now + length > 999) return STATE;
        if (length == 0 || shut[p] || shut[at[s]] || coins[s] < fuel * length) return NO;
        coins[s] -= fuel * length;
        paid += fuel * length;
        for (int i = 0; i < length; i++) oneTick();
        at[s] = p;
        return now;
    }

    int ofShip(int s, int what) {
        if (noShip(s)) return UNKNOWN;
        if (what == 0) return at[s];
        if (what == 1) return hold[s];
        if (what == 2) return coins[s];
        if (what == 3) return load(s);
        if (what >= 10 && what <= 12) return cargo[s][what - 10];
        return OUTSIDE;
    }

    int fuel(int v) {
        if (v < 0 || v > 20) return OUTSIDE;
        int was = fuel;
        fuel = v;
        return was;
    }

    int told(int what) {
        int units = 0;
        int purse = 0;
        for (int[][] p : shelf) {
            for (int[] g : p) units += g[0];
        }
        for (int s = 0; s < ships; s++) {
            units += load(s);
            purse += coins[s];
        }
        int[] all = {ports, ships, now, events.size(), units, made, used, brought, stocked, purse, paid, fuel};
        return what < 0 || what > 11 ? LOST - 2 : all[what];
    }

    private int legGain(int p, int q, int h) {
        int most = 0;
        for (int g = 0; g < 3; g++) {
            int gain = about(q, g, 5) - tax[q] - about(p, g, 5) - tax[p];
            if (gain > most) most = gain;
        }
        return h * most - fuel * ways[p][q];
    }

    /** Every row of different ports whatever, so that what is a ring is asked of the whole row alone. */
    private void rows(List<Integer> row, List<List<Integer>> all) {
        if (row.size() >= 2) all.add(new ArrayList<>(row));
        for (int p = 0; p < ports; p++) {
            if (!row.contains(p)) {
                row.add(p);
                rows(row, all);
                row.remove(row.size() - 1);
            }
        }
    }

    /** Gains, lengths; null: it is no ring, or is not told from its least port on. */
    private long[] ringOf(List<Integer> row, int h) {
        long gains = 0;
        long lengths = 0;
        for (int i = 0; i < row.size(); i++) {
            int p = row.get(i);
            int q = row.get((i + 1) % row.size());
            if (shut[p] || ways[p][q] == 0 || p < row.get(0)) return null;
            gains += legGain(p, q, h);
            lengths += ways[p][q];
        }
        return new long[] {gains, lengths};
    }

    private static boolean earlier(List<Integer> a, List<Integer> b) {
        if (a.size() != b.size()) return a.size() < b.size();
        for (int i = 0; i < a.size(); i++) {
            if (!a.get(i).equals(b.get(i))) return a.get(i) < b.get(i);
        }
        return false;
    }

    int ring(int h, int what) {
        if (h < 1 || h > 20 || what < 0 || what > 2 && what < 10) return LOST - 2;
        List<List<Integer>> all = new ArrayList<>();
        rows(new ArrayList<>(), all);
        List<Integer> best = null;
        long[] most = null;
        for (List<Integer> row : all) {
            long[] r = ringOf(row, h);
            if (r == null) continue;
            long ahead = most == null ? 1 : r[0] * most[1] - most[0] * r[1];
            if (ahead > 0 || ahead == 0 && earlier(row, best)) {
                best = row;
                most = r;
            }
        }
        if (best == null) return LOST - 5;
        if (what < 2) return (int) most[what];
        if (what == 2) return best.size();
        return what - 10 < best.size() ? best.get(what - 10) : NONE;
    }

    private static boolean firstOf(List<int[]> a, List<int[]> b) {
        for (int i = 0; i < a.size(); i++) {
            if (a.get(i)[0] != b.get(i)[0]) return a.get(i)[0] < b.get(i)[0];
            if (a.get(i)[1] != b.get(i)[1]) return a.get(i)[1] < b.get(i)[1];
        }
        return false;
    }

    /** The best of all plans that go on with k trips: its trips, and then its coins; null: none. */
    private List<int[]> bestOf(int s, int k) {
        if (k == 0) {
            List<int[]> end = new ArrayList<>();
            end.add(new int[] {coins[s]});
            return end;
        }
        List<int[]> best = null;
        // From the last on, so that ties are told by the order alone and not by who came first.
        for (int g = 3; g >= 0; g--) {
            for (int p = ports - 1; p >= 0; p--) {
                PlainTrade w = copy();
                w.cargo[s] = new int[3];
                if (g < 3 && !w.shut[w.at[s]]) w.buy(s, g, 20);
                if (w.go(s, p) < 0) continue;
                if (g < 3) w.sell(s, g, 20);
                List<int[]> rest = w.bestOf(s, k - 1);
                if (rest == null) continue;
                rest.add(0, new int[] {p, g});
                int got = rest.get(k)[0];
                if (best == null || got > best.get(k)[0] || got == best.get(k)[0] && firstOf(rest.subList(0, k), best)) {
                    best = rest;
                }
            }
        }
        return best;
    }

    int plan(int s, int k) {
        if (noShip(s)) return UNKNOWN;
        if (k < 1 || k > 3) return OUTSIDE;
        List<int[]> best = bestOf(s, k);
        if (best == null) return NO;
        latest = best.subList(0, k);
        return best.get(k)[0];
    }

    int planned(int i, int what) {
        return i < 0 || i >= latest.size() || what < 0 || what > 1 ? NONE : latest.get(i)[what];
    }

    int starves(int p, int g, int t) {
        if (noPort(p) || noGood(g)) return UNKNOWN;
        if (t < 1 || t > 200) return OUTSIDE;
        PlainTrade w = copy();
        for (int i = 0; i < t && w.now < 999; i++) {
            w.oneTick();
            if (w.shelf[p][g][6] > shelf[p][g][6]) return w.now - 1;
        }
        return NONE;
    }
}
