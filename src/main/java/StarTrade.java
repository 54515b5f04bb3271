/**
 * Ports that make and use goods, ships that trade between them, and searches
 * for the ring and the trips that pay most.
 */
public final class StarTrade {
    public static final int UNKNOWN = -1, OUTSIDE = -2, STATE = -3, FULL = -4, NO = -5, NONE = -6;
    public static final int LOST = -10000000;

    private static final int PORTS = 6, GOODS = 3, SHIPS = 4, EVENTS = 20, TRIPS = 3;
    private static final int LAST_NOW = 999, MOST_AT_ONCE = 200;
    private static final int MOST_STOCK = 1000, MOST_COINS = 1000000, MOST_HOLD = 20;
    private static final int MOST_TAX = 20, MOST_FUEL = 20, MOST_LENGTH = 9;
    private static final int STOCK = 0, MAKE = 1, USE = 2, BASE = 3, IDEAL = 4, PRICE = 5, HUNGER = 6;
    private static final int INDEXED = 10;

    // Rows by what set() tells: STOCK, MAKE, USE, BASE, IDEAL.
    private static final int[] LEAST = {0, 0, 0, 1, 1};
    private static final int[] MOST = {1000, 50, 50, 100, 100};

    private final World world;
    private final Ship[] ships;
    private int shipCount;
    private int made, used, brought, stocked, fuelPaid;
    private final Flow flow;
    private final Deal deal;
    private final RingSearch rings;
    private final PlanSearch plans;

    public StarTrade() {
        world = new World();
        ships = new Ship[SHIPS];
        for (int i = 0; i < SHIPS; i++) {
            ships[i] = new Ship();
        }
        flow = new Flow();
        deal = new Deal();
        rings = new RingSearch(world);
        plans = new PlanSearch(world);
    }

    // ---- 1 ports

    public int port() {
        if (world.portCount >= PORTS) {
            return FULL;
        }
        return world.portCount++;
    }

    public int set(int port, int good, int what, int v) {
        if (!isPort(port) || !isGood(good)) {
            return UNKNOWN;
        }
        if (!within(what, STOCK, IDEAL) || !within(v, LEAST[what], MOST[what])) {
            return OUTSIDE;
        }
        Shelf shelf = world.shelf(port, good);
        int was = shelf.number(what);
        shelf.change(what, v);
        if (what == STOCK) {
            stocked += v - was;
        }
        return was;
    }

    public int about(int port, int good, int what) {
        if (!isPort(port) || !isGood(good)) {
            return UNKNOWN;
        }
        if (!within(what, STOCK, HUNGER)) {
            return OUTSIDE;
        }
        return world.shelf(port, good).number(what);
    }

    public int tax(int port, int v) {
        if (!isPort(port)) {
            return UNKNOWN;
        }
        if (!within(v, 0, MOST_TAX)) {
            return OUTSIDE;
        }
        int was = world.ports[port].tax;
        world.ports[port].tax = v;
        return was;
    }

    public int shut(int port, boolean is) {
        if (!isPort(port)) {
            return UNKNOWN;
        }
        int was = oneIf(world.ports[port].shut);
        world.ports[port].shut = is;
        return was;
    }

    public int way(int a, int b, int length) {
        if (!isPort(a) || !isPort(b) || a == b) {
            return UNKNOWN;
        }
        if (!within(length, 0, MOST_LENGTH)) {
            return OUTSIDE;
        }
        int was = world.ways[a][b];
        world.ways[a][b] = length;
        world.ways[b][a] = length;
        return was;
    }

    public int ofPort(int port, int what) {
        if (!isPort(port)) {
            return LOST + UNKNOWN;
        }
        Port p = world.ports[port];
        switch (what) {
            case 0:
                return p.tax;
            case 1:
                return p.chest;
            case 2:
                return p.trade;
            case 3:
                return oneIf(p.shut);
            case 4:
                return p.hungerOfAll();
            default:
                return LOST + OUTSIDE;
        }
    }

    public int tick(int n) {
        if (!within(n, 1, MOST_AT_ONCE)) {
            return OUTSIDE;
        }
        if (world.now + n > LAST_NOW) {
            return STATE;
        }
        passTicks(n);
        return world.now;
    }

    public int event(int tick, int port, int good, int by) {
        if (!isPort(port) || !isGood(good)) {
            return UNKNOWN;
        }
        if (!within(tick, world.now, LAST_NOW - 1) || !within(by, -MOST_STOCK, MOST_STOCK) || by == 0) {
            return OUTSIDE;
        }
        if (world.calendar.count >= EVENTS) {
            return FULL;
        }
        world.calendar.add(tick, world.shelf(port, good).place, by);
        return world.calendar.count;
    }

    // ---- 2 ships

    public int ship(int port, int hold, int coins) {
        if (!isPort(port)) {
            return UNKNOWN;
        }
        if (!within(hold, 1, MOST_HOLD) || !within(coins, 0, MOST_COINS)) {
            return OUTSIDE;
        }
        if (shipCount >= SHIPS) {
            return FULL;
        }
        Ship s = ships[shipCount];
        s.port = port;
        s.hold = hold;
        s.coins = coins;
        return shipCount++;
    }

    public int buy(int ship, int good, int units) {
        int refusal = refusalOfDeal(ship, good, units);
        if (refusal != 0) {
            return refusal;
        }
        Ship s = ships[ship];
        Port p = world.ports[s.port];
        Shelf shelf = p.shelves[good];
        deal.purchase(shelf, shelf.stock, p.tax, s.coins, Math.min(units, s.hold - s.load()));
        shelf.stock = deal.stock;
        s.coins = deal.coins;
        s.cargo[good] += deal.units;
        p.trade -= deal.worth;
        p.chest += deal.taxes;
        return deal.units;
    }

    public int sell(int ship, int good, int units) {
        int refusal = refusalOfDeal(ship, good, units);
        if (refusal != 0) {
            return refusal;
        }
        Ship s = ships[ship];
        Port p = world.ports[s.port];
        Shelf shelf = p.shelves[good];
        deal.sale(shelf, shelf.stock, p.tax, s.coins, Math.min(units, s.cargo[good]));
        shelf.stock = deal.stock;
        s.coins = deal.coins;
        s.cargo[good] -= deal.units;
        p.trade += deal.worth;
        p.chest += deal.taxes;
        return deal.units;
    }

    public int go(int ship, int port) {
        if (!isShip(ship) || !isPort(port)) {
            return UNKNOWN;
        }
        Ship s = ships[ship];
        int length = world.ways[s.port][port];
        if (world.now + length > LAST_NOW) {
            return STATE;
        }
        int cost = world.fuel * length;
        if (world.openLength(s.port, port) == 0 || cost > s.coins) {
            return NO;
        }
        s.coins -= cost;
        fuelPaid += cost;
        passTicks(length);
        s.port = port;
        return world.now;
    }

    public int ofShip(int ship, int what) {
        if (!isShip(ship)) {
            return UNKNOWN;
        }
        Ship s = ships[ship];
        if (within(what, INDEXED, INDEXED + GOODS - 1)) {
            return s.cargo[what - INDEXED];
        }
        switch (what) {
            case 0:
                return s.port;
            case 1:
                return s.hold;
            case 2:
                return s.coins;
            case 3:
                return s.load();
            default:
                return OUTSIDE;
        }
    }

    public int fuel(int v) {
        if (!within(v, 0, MOST_FUEL)) {
            return OUTSIDE;
        }
        int was = world.fuel;
        world.fuel = v;
        return was;
    }

    public int told(int what) {
        switch (what) {
            case 0:
                return world.portCount;
            case 1:
                return shipCount;
            case 2:
                return world.now;
            case 3:
                return world.calendar.count;
            case 4:
                return unitsInAll();
            case 5:
                return made;
            case 6:
                return used;
            case 7:
                return brought;
            case 8:
                return stocked;
            case 9:
                return coinsOfShips();
            case 10:
                return fuelPaid;
            case 11:
                return world.fuel;
            default:
                return LOST + OUTSIDE;
        }
    }

    // ---- 3 rings, plans

    public int ring(int hold, int what) {
        // No upper end for what: a ring that has not so many ports answers NONE.
        if (!within(hold, 1, MOST_HOLD) || !(within(what, 0, 2) || what >= INDEXED)) {
            return LOST + OUTSIDE;
        }
        rings.seek(hold);
        if (rings.bestCount == 0) {
            return LOST + NO;
        }
        if (what == 0) {
            return rings.bestGains;
        }
        if (what == 1) {
            return rings.bestLengths;
        }
        if (what == 2) {
            return rings.bestCount;
        }
        int i = what - INDEXED;
        return i < rings.bestCount ? rings.best[i] : NONE;
    }

    public int plan(int ship, int k) {
        if (!isShip(ship)) {
            return UNKNOWN;
        }
        if (!within(k, 1, TRIPS)) {
            return OUTSIDE;
        }
        Ship s = ships[ship];
        return plans.seek(s.port, s.hold, s.coins, k) ? plans.bestCoins : NO;
    }

    public int planned(int i, int what) {
        if (!within(i, 0, plans.foundTrips - 1)) {
            return NONE;
        }
        if (what == 0) {
            return plans.bestPorts[i];
        }
        return what == 1 ? plans.bestGoods[i] : NONE;
    }

    public int starves(int port, int good, int t) {
        if (!isPort(port) || !isGood(good)) {
            return UNKNOWN;
        }
        if (!within(t, 1, MOST_AT_ONCE)) {
            return OUTSIDE;
        }
        Shelf shelf = world.shelf(port, good);
        flow.follow(shelf, world.calendar, shelf.stock, world.now, Math.min(world.now + t, LAST_NOW));
        return flow.firstLack;
    }

    private static boolean within(int v, int least, int most) {
        return v >= least && v <= most;
    }

    private static int oneIf(boolean is) {
        return is ? 1 : 0;
    }

    private boolean isPort(int port) {
        return within(port, 0, world.portCount - 1);
    }

    private static boolean isGood(int good) {
        return within(good, 0, GOODS - 1);
    }

    private boolean isShip(int ship) {
        return within(ship, 0, shipCount - 1);
    }

    /** The refusal of a call that buys or sells; 0: it is not refused. */
    private int refusalOfDeal(int ship, int good, int units) {
        if (!isShip(ship) || !isGood(good)) {
            return UNKNOWN;
        }
        if (!within(units, 1, MOST_HOLD)) {
            return OUTSIDE;
        }
        return world.ports[ships[ship].port].shut ? NO : 0;
    }

    /** No shelf's ticks touch another shelf, so each goes through all n of them by itself. */
    private void passTicks(int n) {
        for (int p = 0; p < world.portCount; p++) {
            for (int g = 0; g < GOODS; g++) {
                passTicksOf(world.shelf(p, g), n);
            }
        }
        world.now += n;
        world.calendar.dropBefore(world.now);
    }

    private void passTicksOf(Shelf shelf, int n) {
        flow.follow(shelf, world.calendar, shelf.stock, world.now, world.now + n);
        shelf.stock = flow.stock;
        shelf.hunger += flow.lack;
        made += flow.made;
        used += flow.used;
        brought += flow.brought;
    }

    private int unitsInAll() {
        int units = 0;
        for (int p = 0; p < world.portCount; p++) {
            for (int g = 0; g < GOODS; g++) {
                units += world.shelf(p, g).stock;
            }
        }
        for (int i = 0; i < shipCount; i++) {
            units += ships[i].load();
        }
        return units;
    }

    private int coinsOfShips() {
        int coins = 0;
        for (int i = 0; i < shipCount; i++) {
            coins += ships[i].coins;
        }
        return coins;
    }

    /** One good in one port. */
    private static final class Shelf {
        final int place;
        int stock, make, use, base, ideal, hunger;

        Shelf(int place) {
            this.place = place;
            base = 10;
            ideal = 10;
        }

        int priceAt(int stockThen) {
            // set() keeps ideal at 1 or more; it is looked at here all the same, since it divides.
            if (ideal < 1) {
                return 1;
            }
            int scarce = Math.max(0, 2 * ideal - stockThen);
            return Math.max(1, base * scarce / ideal);
        }

        int number(int what) {
            switch (what) {
                case STOCK:
                    return stock;
                case MAKE:
                    return make;
                case USE:
                    return use;
                case BASE:
                    return base;
                case IDEAL:
                    return ideal;
                case PRICE:
                    return priceAt(stock);
                default:
                    return hunger;
            }
        }

        void change(int what, int v) {
            switch (what) {
                case STOCK:
                    stock = v;
                    break;
                case MAKE:
                    make = v;
                    break;
                case USE:
                    use = v;
                    break;
                case BASE:
                    base = v;
                    break;
                default:
                    ideal = v;
                    break;
            }
        }
    }

    private static final class Port {
        final Shelf[] shelves;
        int tax, chest, trade;
        boolean shut;

        Port(int number) {
            shelves = new Shelf[GOODS];
            for (int g = 0; g < GOODS; g++) {
                shelves[g] = new Shelf(number * GOODS + g);
            }
        }

        int hungerOfAll() {
            int sum = 0;
            for (int g = 0; g < GOODS; g++) {
                sum += shelves[g].hunger;
            }
            return sum;
        }
    }

    private static final class Ship {
        int port, hold, coins;
        final int[] cargo = new int[GOODS];

        int load() {
            int units = 0;
            for (int g = 0; g < GOODS; g++) {
                units += cargo[g];
            }
            return units;
        }
    }

    /** What the calls and the searches look at together. */
    private static final class World {
        final Port[] ports;
        final int[][] ways;
        final Calendar calendar;
        int portCount, now, fuel;

        World() {
            ports = new Port[PORTS];
            for (int p = 0; p < PORTS; p++) {
                ports[p] = new Port(p);
            }
            ways = new int[PORTS][PORTS];
            calendar = new Calendar();
            fuel = 1;
        }

        Shelf shelf(int port, int good) {
            return ports[port].shelves[good];
        }

        /** How long the way is for a ship that may take it; 0: none may. */
        int openLength(int a, int b) {
            return ports[a].shut || ports[b].shut ? 0 : ways[a][b];
        }
    }

    /** Events to come, by tick and then as told, so that those that are over stand in front. */
    private static final class Calendar {
        final int[] ticks = new int[EVENTS];
        final int[] places = new int[EVENTS];
        final int[] changes = new int[EVENTS];
        int count;

        void add(int tick, int place, int by) {
            if (count >= EVENTS) {
                return;
            }
            int at = count;
            while (at > 0 && ticks[at - 1] > tick) {
                move(at - 1, at);
                at--;
            }
            ticks[at] = tick;
            places[at] = place;
            changes[at] = by;
            count++;
        }

        void dropBefore(int now) {
            int over = 0;
            while (over < count && ticks[over] < now) {
                over++;
            }
            for (int i = over; i < count; i++) {
                move(i, i - over);
            }
            count -= over;
        }

        private void move(int from, int to) {
            ticks[to] = ticks[from];
            places[to] = places[from];
            changes[to] = changes[from];
        }
    }

    /** What ticks do to one shelf. The shelf stays as it is, so that foretelling uses it too. */
    private static final class Flow {
        int stock, made, used, brought, lack, firstLack;

        /** From the tick 'from' up to, but without, the tick 'to'. */
        void follow(Shelf shelf, Calendar calendar, int stockThen, int from, int to) {
            stock = stockThen;
            made = 0;
            used = 0;
            brought = 0;
            lack = 0;
            firstLack = NONE;
            int e = 0;
            for (int t = from; t < to; t++) {
                while (e < calendar.count && calendar.ticks[e] <= t) {
                    if (calendar.ticks[e] == t && calendar.places[e] == shelf.place) {
                        bring(calendar.changes[e]);
                    }
                    e++;
                }
                makeAndUse(shelf, t);
            }
        }

        private void bring(int by) {
            int then = Math.max(0, Math.min(MOST_STOCK, stock + by));
            brought += then - stock;
            stock = then;
        }

        private void makeAndUse(Shelf shelf, int t) {
            int more = Math.min(shelf.make, MOST_STOCK - stock);
            int less = Math.min(shelf.use, stock + more);
            stock += more - less;
            made += more;
            used += less;
            if (less < shelf.use) {
                lack += shelf.use - less;
                firstLack = firstLack == NONE ? t : firstLack;
            }
        }
    }

    /** What it comes to, to buy or to sell unit by unit. The shelf stays as it is, so that plans use it too. */
    private static final class Deal {
        int units, stock, coins, worth, taxes;

        void purchase(Shelf shelf, int stockThen, int tax, int coinsThen, int most) {
            begin(stockThen, coinsThen);
            for (int i = 0; i < most && stock > 0; i++) {
                int price = shelf.priceAt(stock);
                if (price + tax > coins) {
                    break;
                }
                coins -= price + tax;
                stock--;
                count(price, tax);
            }
        }

        void sale(Shelf shelf, int stockThen, int tax, int coinsThen, int most) {
            begin(stockThen, coinsThen);
            for (int i = 0; i < most && stock < MOST_STOCK; i++) {
                int price = shelf.priceAt(stock + 1);
                int kept = Math.min(tax, price);
                if (coins + price - kept > MOST_COINS) {
                    break;
                }
                coins += price - kept;
                stock++;
                count(price, kept);
            }
        }

        private void begin(int stockThen, int coinsThen) {
            units = 0;
            stock = stockThen;
            coins = coinsThen;
            worth = 0;
            taxes = 0;
        }

        private void count(int price, int kept) {
            units++;
            worth += price;
            taxes += kept;
        }
    }

    /** All rings are tried, each from its least port on. */
    private static final class RingSearch {
        private final World world;
        private final int[][] legGains = new int[PORTS][PORTS];
        private final int[] path = new int[PORTS];
        final int[] best = new int[PORTS];
        int bestCount, bestGains, bestLengths;

        RingSearch(World world) {
            this.world = world;
        }

        /** bestCount is 0 behind it if there is no ring. */
        void seek(int hold) {
            bestCount = 0;
            fillLegGains(hold);
            for (int start = 0; start < world.portCount; start++) {
                path[0] = start;
                extend(1, 0, 0);
            }
        }

        private void fillLegGains(int hold) {
            for (int p = 0; p < world.portCount; p++) {
                for (int q = 0; q < world.portCount; q++) {
                    legGains[p][q] = hold * gainOfUnit(p, q) - world.fuel * world.ways[p][q];
                }
            }
        }

        private int gainOfUnit(int p, int q) {
            int taxes = world.ports[p].tax + world.ports[q].tax;
            int gain = 0;
            for (int g = 0; g < GOODS; g++) {
                int priceAtP = world.shelf(p, g).number(PRICE);
                int priceAtQ = world.shelf(q, g).number(PRICE);
                gain = Math.max(gain, priceAtQ - priceAtP - taxes);
            }
            return gain;
        }

        private void extend(int count, int gains, int lengths) {
            int last = path[count - 1];
            int home = world.openLength(last, path[0]);
            if (count >= 2 && home > 0) {
                compare(count, gains + legGains[last][path[0]], lengths + home);
            }
            if (count >= PORTS) {
                return;
            }
            for (int next = path[0] + 1; next < world.portCount; next++) {
                int length = world.openLength(last, next);
                if (length > 0 && !isOnPath(next, count)) {
                    path[count] = next;
                    extend(count + 1, gains + legGains[last][next], lengths + length);
                }
            }
        }

        private boolean isOnPath(int port, int count) {
            for (int i = 0; i < count; i++) {
                if (path[i] == port) {
                    return true;
                }
            }
            return false;
        }

        /** Rings of one size come first by numbers first, so of equals the earlier stays. */
        private void compare(int count, int gains, int lengths) {
            int ahead = gains * bestLengths - bestGains * lengths;
            if (bestCount == 0 || ahead > 0 || ahead == 0 && count < bestCount) {
                bestCount = count;
                bestGains = gains;
                bestLengths = lengths;
                System.arraycopy(path, 0, best, 0, count);
            }
        }
    }

    /** Where a plan stands between two trips, and what it may buy there: rows by good, the last for none. */
    private static final class Stop {
        int port, tick, coins;
        // Goods of which nothing can be bought all end as none does: the first of them is enough.
        int firstEmpty;
        final int[] units = new int[GOODS + 1];
        final int[] coinsLeft = new int[GOODS + 1];
        final int[] stockLeft = new int[GOODS + 1];
    }

    /** All plans are tried in their order; a later one must leave more coins to be the better. */
    private static final class PlanSearch {
        private final World world;
        private final Flow flow = new Flow();
        private final Deal deal = new Deal();
        private final Stop[] stops;
        // A shelf's stock as the plan last left it, and when: ticks since then are followed only when needed.
        private final int[] stocks = new int[PORTS * GOODS];
        private final int[] times = new int[PORTS * GOODS];
        private final int[] pathPorts = new int[TRIPS];
        private final int[] pathGoods = new int[TRIPS];
        private int trips, hold;
        private boolean found;
        final int[] bestPorts = new int[TRIPS];
        final int[] bestGoods = new int[TRIPS];
        int bestCoins, foundTrips;

        PlanSearch(World world) {
            this.world = world;
            stops = new Stop[TRIPS + 1];
            for (int i = 0; i <= TRIPS; i++) {
                stops[i] = new Stop();
            }
        }

        /** Whether there is a plan; if not, what was found before stays. */
        boolean seek(int port, int holdOfShip, int coins, int k) {
            trips = k;
            hold = holdOfShip;
            found = false;
            for (int p = 0; p < world.portCount; p++) {
                for (int g = 0; g < GOODS; g++) {
                    stocks[world.shelf(p, g).place] = world.shelf(p, g).stock;
                    times[world.shelf(p, g).place] = world.now;
                }
            }
            arrive(stops[0], port, world.now, coins);
            extend(0);
            return found;
        }

        private void arrive(Stop stop, int port, int tick, int coins) {
            stop.port = port;
            stop.tick = tick;
            stop.coins = coins;
        }

        private void extend(int depth) {
            Stop here = stops[depth];
            if (depth >= trips) {
                compare(here.coins);
                return;
            }
            buyEach(here);
            for (int to = 0; to < world.portCount; to++) {
                int length = world.openLength(here.port, to);
                if (length == 0 || here.tick + length > LAST_NOW) {
                    continue;
                }
                for (int good = 0; good <= GOODS; good++) {
                    if (here.units[good] > 0 || good == here.firstEmpty) {
                        travel(depth, to, length, good);
                    }
                }
            }
        }

        private void compare(int coins) {
            if (found && coins <= bestCoins) {
                return;
            }
            found = true;
            bestCoins = coins;
            foundTrips = trips;
            System.arraycopy(pathPorts, 0, bestPorts, 0, trips);
            System.arraycopy(pathGoods, 0, bestGoods, 0, trips);
        }

        /** What is bought does not hang on where the trip goes, so it is reckoned once for all of them. */
        private void buyEach(Stop here) {
            here.coinsLeft[GOODS] = here.coins;
            here.firstEmpty = GOODS;
            for (int g = GOODS - 1; g >= 0; g--) {
                Shelf shelf = world.shelf(here.port, g);
                deal.purchase(shelf, stockOf(shelf, here.tick), world.ports[here.port].tax, here.coins, hold);
                here.units[g] = deal.units;
                here.coinsLeft[g] = deal.coins;
                here.stockLeft[g] = deal.stock;
                here.firstEmpty = deal.units == 0 ? g : here.firstEmpty;
            }
        }

        private int stockOf(Shelf shelf, int tick) {
            flow.follow(shelf, world.calendar, stocks[shelf.place], times[shelf.place], tick);
            return flow.stock;
        }

        private void travel(int depth, int to, int length, int good) {
            Stop here = stops[depth];
            Stop there = stops[depth + 1];
            int coins = here.coinsLeft[good] - world.fuel * length;
            if (coins < 0) {
                return;
            }
            pathPorts[depth] = to;
            pathGoods[depth] = good;
            arrive(there, to, here.tick + length, coins);
            if (here.units[good] == 0) {
                extend(depth + 1);
                return;
            }
            Shelf source = world.shelf(here.port, good);
            Shelf target = world.shelf(there.port, good);
            int sourceStock = stocks[source.place];
            int sourceTime = times[source.place];
            int targetStock = stocks[target.place];
            int targetTime = times[target.place];
            leave(source, here.stockLeft[good], here.tick);
            deal.sale(target, stockOf(target, there.tick), world.ports[there.port].tax, there.coins, here.units[good]);
            there.coins = deal.coins;
            leave(target, deal.stock, there.tick);
            extend(depth + 1);
            leave(source, sourceStock, sourceTime);
            leave(target, targetStock, targetTime);
        }

        private void leave(Shelf shelf, int stock, int tick) {
            stocks[shelf.place] = stock;
            times[shelf.place] = tick;
        }
    }
}
