import java.util.Arrays;

/** A marsh court, as ../shared/DOC.md tells it. A refused call changes nothing. */
public final class MarshCourt {
    public static final int NONE = -1, BAD = -2, STATE = -3, FULL = -4;

    private static final int COLUMNS = 6, CELLS = 30, MOST_LEVEL = 60, NEIGHBOURS = 4;
    private static final int OWNERS = 8, PARTS = 12, ALL_PARTS = 360, MOST_SALES = 120;
    private static final int MOST_RODS = 24, MOST_HEIGHT = 99, MOST_HERDS = 6;
    private static final int MOST_BYTES = 160, MOST_CLAUSES = 10, MOST_COURTS = 12;
    private static final int MOST_FAULTS = 60, MOST_HANDS = 200, MOST_SUM = 100000;
    private static final int LAST_DAY = 9999, MILLION = 1000000;
    private static final int DROWNED = -5, NOBODY = -5, NO_SUCH_LEVEL = -50, GATE = -100, FAULT = -10;

    /** SEA in each HOUR, in quarters of HIGH. */
    private static final int[] HOURS = {2, 3, 4, 3, 2, 1};

    private final Land land;
    private final Sales sales;
    private final Shares shares;
    private final Bank bank;
    private final Herds herds;
    private final Ways ways;
    private final Tape tape;
    private final Courts courts;
    private final Faults faults;
    private final Plan plan;
    private int today;
    private int tides;

    public MarshCourt() {
        land = new Land();
        sales = new Sales();
        shares = new Shares();
        bank = new Bank();
        herds = new Herds();
        ways = new Ways();
        tape = new Tape();
        courts = new Courts();
        faults = new Faults();
        plan = new Plan();
    }

    // ---- land

    public int level(int cell, int n) {
        if (!isCell(cell)) {
            return NONE;
        }
        if (!within(n, 0, MOST_LEVEL)) {
            return BAD;
        }
        int was = land.levels[cell];
        land.levels[cell] = n;
        return was;
    }

    public int cell(int cell, int what) {
        if (!isCell(cell)) {
            return NONE;
        }
        switch (what) {
            case 0: return land.levels[cell];
            case 1: return land.waters[cell];
            case 2: return land.surface(cell);
            case 3: return land.peaks[cell];
            case 4: return land.salts[cell];
            default: return NONE;
        }
    }

    public int sell(int cell, int from, int to, int parts, int day) {
        if (!isCell(cell) || !isOwner(from) || !isOwner(to)) {
            return NONE;
        }
        if (!within(parts, 1, PARTS) || !isDay(day) || from == to) {
            return BAD;
        }
        if (sales.size >= MOST_SALES) {
            return FULL;
        }
        if (sales.wouldOwe(cell, from, parts, day)) {
            return STATE;
        }
        sales.enter(cell, from, to, parts, day);
        return sales.size;
    }

    public int held(int cell, int owner, int day, int known) {
        boolean place = cell == Sales.EVERYWHERE || isCell(cell);
        if (!place || !isOwner(owner) || !within(known, 0, sales.size)) {
            return NONE;
        }
        if (!isDay(day)) {
            return BAD;
        }
        return sales.partsOf(cell, owner, day, known);
    }

    // ---- rods, sluices, gates, herds

    public int rod(int cell, int kind, int height) {
        if (!isCell(cell)) {
            return NONE;
        }
        if (!within(kind, Bank.EARTH, Bank.POSTS) || !within(height, 0, MOST_HEIGHT)) {
            return BAD;
        }
        if (bank.size >= MOST_RODS) {
            return FULL;
        }
        return bank.add(cell, kind, height);
    }

    public int sluice(int rod, int how) {
        if (!isRod(rod)) {
            return NONE;
        }
        if (!within(how, Bank.NO_SLUICE, Bank.BY_TIDE)) {
            return BAD;
        }
        int was = bank.sluices[rod];
        bank.sluices[rod] = how;
        return was;
    }

    public int about(int rod, int what) {
        if (!isRod(rod)) {
            return NONE;
        }
        switch (what) {
            case 0: return bank.cells[rod];
            case 1: return bank.kinds[rod];
            case 2: return bank.heights[rod];
            case 3: return bank.sluices[rod];
            case 4: return bank.breaks[rod];
            case 5: return bank.worn[rod];
            case 6: return bank.viewed[rod];
            case 7: return isDue(rod) ? 1 : 0;
            default: return NONE;
        }
    }

    public int gate(int a, int b, int open) {
        if (!isCell(a) || !isCell(b)) {
            return NONE;
        }
        int gate = Land.gateBetween(a, b);
        if (gate == NONE || !within(open, 0, 1)) {
            return BAD;
        }
        int was = land.shut[gate] ? 0 : 1;
        land.shut[gate] = open == 0;
        return was;
    }

    public int herd(int cell) {
        if (!isCell(cell)) {
            return NONE;
        }
        if (herds.size >= MOST_HERDS) {
            return FULL;
        }
        return herds.add(cell);
    }

    public int drive(int herd, int cell) {
        if (!isHerd(herd) || !isCell(cell)) {
            return NONE;
        }
        int was = herds.places[herd];
        int gate = Land.gateBetween(was, cell);
        if (gate == NONE) {
            return BAD;
        }
        if (land.shut[gate] || herds.drowned[herd]) {
            return STATE;
        }
        herds.places[herd] = cell;
        return was;
    }

    public int where(int herd) {
        if (!isHerd(herd)) {
            return NONE;
        }
        return herds.drowned[herd] ? DROWNED : herds.places[herd];
    }

    public int way(int herd, int level, int what) {
        if (!isHerd(herd) || !within(what, 0, 1)) {
            return NONE;
        }
        if (!within(level, 0, MOST_LEVEL)) {
            return BAD;
        }
        if (herds.drowned[herd]) {
            return STATE;
        }
        ways.seek(land, herds.places[herd], level);
        if (ways.target == NONE) {
            return NO_SUCH_LEVEL;
        }
        if (ways.ahead == NONE) {
            return what == 0 ? ways.moves : ways.target;
        }
        return GATE - (what == 0 ? ways.ahead : ways.behind);
    }

    // ---- days, tides

    public int tide(int high, int wind, int rain) {
        if (!within(high, 0, 120) || !within(wind, 0, 3) || !within(rain, 0, 50)) {
            return BAD;
        }
        if (today >= LAST_DAY) {
            return FULL;
        }
        land.beginTide();
        bank.beginTide();
        for (int quarters : HOURS) {
            runHour(high * quarters / 4, wind, rain);
        }
        land.endTide();
        today++;
        tides++;
        return bank.brokenInTide();
    }

    public int pass(int n) {
        if (!within(n, 1, 400)) {
            return BAD;
        }
        if (today + n > LAST_DAY) {
            return FULL;
        }
        today += n;
        return today;
    }

    public int year() {
        return land.passYear();
    }

    // ---- customs, courts

    public int feed(long w, int n) {
        if (!within(n, 1, 8)) {
            return BAD;
        }
        if (tape.size + n > MOST_BYTES) {
            return FULL;
        }
        tape.append(w, n);
        return tape.size;
    }

    public int court(int day) {
        if (!isDay(day)) {
            return BAD;
        }
        if (courts.size >= MOST_COURTS) {
            return FULL;
        }
        // Read into the next court's own row: it counts only once it is whole.
        Custom next = courts.entered[courts.size];
        boolean whole = tape.read(next);
        tape.size = 0;
        if (!whole) {
            return FAULT - tape.place;
        }
        next.day = day;
        courts.size++;
        return courts.size - 1;
    }

    public int custom(int day, int known, int what) {
        if (!within(known, 0, courts.size) || !within(what, 0, 4)) {
            return NONE;
        }
        // "None is in force" is told ahead of BAD, so it is looked at first, whatever the day.
        int court = courts.inForce(day, known);
        if (court == NONE) {
            return NONE;
        }
        if (!isDay(day)) {
            return BAD;
        }
        return what == 0 ? court : courts.customOf(court).value(what);
    }

    public int mender(int rod, int day, int courts, int sales) {
        if (!isRod(rod) || !within(courts, 0, this.courts.size) || !within(sales, 0, this.sales.size)) {
            return NONE;
        }
        if (!isDay(day)) {
            return BAD;
        }
        return whoMends(rod, day, courts, sales);
    }

    // ---- views, works, scots

    public int view(int rod) {
        if (!isRod(rod)) {
            return NONE;
        }
        Custom now = customNow();
        int missing = Math.max(0, now.height - bank.heights[rod]);
        if (missing > 0 && faults.size >= MOST_FAULTS) {
            return FULL;
        }
        faults.end(rod, today);
        bank.viewed[rod] = today;
        if (missing > 0) {
            int owner = whoMends(rod, today, courts.size, sales.size);
            faults.begin(rod, owner, today, missing, now);
        }
        return missing;
    }

    public int mend(int rod, int owner, int n) {
        if (!isRod(rod) || !isOwner(owner)) {
            return NONE;
        }
        if (!within(n, 1, MOST_HEIGHT) || bank.heights[rod] + n > MOST_HEIGHT) {
            return BAD;
        }
        bank.heights[rod] += n;
        bank.mended[owner] += n;
        faults.endIfMended(rod, bank.heights[rod], today);
        return bank.heights[rod];
    }

    public int fault(int rod, int what) {
        if (!isRod(rod) || faults.open[rod] == NONE) {
            return NONE;
        }
        int fault = faults.open[rod];
        switch (what) {
            case 0: return faults.owners[fault];
            case 1: return faults.begun[fault];
            case 2: return faults.missing[fault];
            case 3: return faults.fineSoFar(fault, today);
            default: return NONE;
        }
    }

    public int fines(int owner) {
        if (!isOwner(owner)) {
            return NONE;
        }
        return faults.owedBy(owner, today) % MILLION;
    }

    public int mended(int owner) {
        if (!isOwner(owner)) {
            return NONE;
        }
        return bank.mended[owner];
    }

    public int works(int hands, int what) {
        if (!within(what, 0, 2)) {
            return NONE;
        }
        if (!within(hands, 0, MOST_HANDS)) {
            return BAD;
        }
        plan.draw(bank, land, customNow().height, hands);
        switch (what) {
            case 0: return plan.worth;
            case 1: return plan.set;
            default: return plan.hands;
        }
    }

    public int scot(int sum, int owner) {
        if (!isOwner(owner)) {
            return NONE;
        }
        if (!within(sum, 0, MOST_SUM)) {
            return BAD;
        }
        sales.sumParts(shares.parts, today, sales.size);
        shares.lay(sum);
        return shares.dealt[owner];
    }

    public int count(int what) {
        switch (what) {
            case 0: return today;
            case 1: return bank.size;
            case 2: return sales.size;
            case 3: return courts.size;
            case 4: return herds.alive();
            case 5: return faults.openOnes();
            case 6: return land.came;
            case 7: return land.went;
            case 8: return land.allWater();
            case 9: return tape.size;
            case 10: return tides;
            default: return NONE;
        }
    }

    // ---- what the calls share

    private static boolean within(int n, int least, int most) {
        return n >= least && n <= most;
    }

    private static boolean isCell(int cell) {
        return within(cell, 0, CELLS - 1);
    }

    private static boolean isOwner(int owner) {
        return within(owner, 0, OWNERS - 1);
    }

    private static boolean isDay(int day) {
        return within(day, 0, LAST_DAY);
    }

    private boolean isRod(int rod) {
        return within(rod, 0, bank.size - 1);
    }

    private boolean isHerd(int herd) {
        return within(herd, 0, herds.size - 1);
    }

    private Custom customNow() {
        return courts.customOf(courts.inForce(today, courts.size));
    }

    private boolean isDue(int rod) {
        int since = bank.viewed[rod] == NONE ? 0 : bank.viewed[rod];
        return today - since >= customNow().views;
    }

    private void runHour(int sea, int wind, int rain) {
        land.rainOnAll(rain);
        for (int rod = 0; rod < bank.size; rod++) {
            bank.meetSea(rod, sea, wind, land);
        }
        for (int rod = 0; rod < bank.size; rod++) {
            bank.runSluice(rod, sea, land);
        }
        land.spread();
        land.notePeaks();
        herds.flee(land);
    }

    private int whoMends(int rod, int day, int knownCourts, int knownSales) {
        Custom then = courts.customOf(courts.inForce(day, knownCourts));
        int rule = then.ruleOf(rod);
        if (rule == NONE) {
            return NOBODY;
        }
        int how = then.hows[rule];
        if (how == Custom.FRONT) {
            return sales.greatestOwner(bank.cells[rod], day, knownSales);
        }
        if (how == Custom.ACRES) {
            int first = then.firsts[rule];
            sales.sumParts(shares.parts, day, knownSales);
            shares.lay(then.lasts[rule] - first + 1);
            return shares.ownerAt(rod - first);
        }
        return how;
    }

    /** The CELLS: land, WATER, SALT, and the GATES between them. */
    private static final class Land {
        final int[] levels = new int[CELLS];
        final int[] waters = new int[CELLS];
        final int[] peaks = new int[CELLS];
        final int[] salts = new int[CELLS];
        /** Of each CELL the GATE to the right one (twice its number) and to the one below (1 more). */
        final boolean[] shut = new boolean[2 * CELLS];
        int came;
        int went;
        boolean seaCame;

        /** The NEIGHBOUR on a side (0 left, 1 right, 2 above, 3 below), or NONE. */
        static int neighbour(int cell, int side) {
            int column = cell % COLUMNS;
            switch (side) {
                case 0: return column > 0 ? cell - 1 : NONE;
                case 1: return column < COLUMNS - 1 ? cell + 1 : NONE;
                case 2: return cell >= COLUMNS ? cell - COLUMNS : NONE;
                case 3: return cell + COLUMNS < CELLS ? cell + COLUMNS : NONE;
                default: return NONE;
            }
        }

        /** The GATE between two CELLS, or NONE if they are no NEIGHBOURS. */
        static int gateBetween(int a, int b) {
            int low = Math.min(a, b);
            int high = Math.max(a, b);
            if (neighbour(low, 1) == high) {
                return 2 * low;
            }
            return neighbour(low, 3) == high ? 2 * low + 1 : NONE;
        }

        boolean isShut(int a, int b) {
            int gate = gateBetween(a, b);
            return gate == NONE || shut[gate];
        }

        int surface(int cell) {
            return levels[cell] + waters[cell] / 100;
        }

        void beginTide() {
            Arrays.fill(peaks, 0);
            seaCame = false;
        }

        void rainOnAll(int rain) {
            for (int cell = 0; cell < CELLS; cell++) {
                waters[cell] += rain;
            }
            came = (came + CELLS * rain) % MILLION;
        }

        void letSeaIn(int cell, int amount) {
            waters[cell] += amount;
            came = (came + amount) % MILLION;
            seaCame = true;
        }

        void letOut(int cell, int amount) {
            int gone = Math.min(amount, waters[cell]);
            waters[cell] -= gone;
            went = (went + gone) % MILLION;
        }

        void spread() {
            for (int cell = 0; cell < CELLS; cell++) {
                settle(cell, neighbour(cell, 1));
                settle(cell, neighbour(cell, 3));
            }
        }

        private void settle(int one, int other) {
            if (other == NONE) {
                return;
            }
            int above = 100 * (levels[one] - levels[other]) + waters[one] - waters[other];
            if (above >= 0) {
                flow(one, other, above / 4);
            } else {
                flow(other, one, -above / 4);
            }
        }

        private void flow(int from, int to, int amount) {
            int moved = Math.min(amount, waters[from]);
            waters[from] -= moved;
            waters[to] += moved;
        }

        void notePeaks() {
            for (int cell = 0; cell < CELLS; cell++) {
                peaks[cell] = Math.max(peaks[cell], waters[cell]);
            }
        }

        void endTide() {
            if (!seaCame) {
                return;
            }
            for (int cell = 0; cell < CELLS; cell++) {
                salts[cell] = Math.max(salts[cell], Math.min(9, peaks[cell] / 200));
            }
        }

        int passYear() {
            int salted = 0;
            for (int cell = 0; cell < CELLS; cell++) {
                salts[cell] = Math.max(0, salts[cell] - 1);
                salted += salts[cell] > 0 ? 1 : 0;
            }
            return salted;
        }

        int allWater() {
            int sum = 0;
            for (int water : waters) {
                sum += water;
            }
            return sum;
        }

        /** Where a HERD in a CELL flees to: the CELL itself if no NEIGHBOUR that it can reach has less WATER. */
        int refuge(int cell) {
            int best = cell;
            for (int side = 0; side < NEIGHBOURS; side++) {
                int next = neighbour(cell, side);
                if (next != NONE && !isShut(cell, next) && waters[next] < waters[best]) {
                    best = next;
                }
            }
            return best;
        }
    }

    /** The SALES in the order in which they were entered. */
    private static final class Sales {
        static final int EVERYWHERE = -1;

        final int[] cells = new int[MOST_SALES];
        final int[] sellers = new int[MOST_SALES];
        final int[] buyers = new int[MOST_SALES];
        final int[] parts = new int[MOST_SALES];
        final int[] days = new int[MOST_SALES];
        int size;

        void enter(int cell, int from, int to, int n, int day) {
            if (size >= MOST_SALES) {
                return;
            }
            cells[size] = cell;
            sellers[size] = from;
            buyers[size] = to;
            parts[size] = n;
            days[size] = day;
            size++;
        }

        int partsOf(int cell, int owner, int day, int known) {
            int sum = owner != 0 ? 0 : cell == EVERYWHERE ? ALL_PARTS : PARTS;
            int first = Math.min(known, size);
            for (int i = 0; i < first; i++) {
                if (days[i] <= day && (cell == EVERYWHERE || cells[i] == cell)) {
                    sum += buyers[i] == owner ? parts[i] : 0;
                    sum -= sellers[i] == owner ? parts[i] : 0;
                }
            }
            return sum;
        }

        /** What every OWNER has of all CELLS. */
        void sumParts(int[] sums, int day, int known) {
            for (int owner = 0; owner < sums.length; owner++) {
                sums[owner] = partsOf(EVERYWHERE, owner, day, known);
            }
        }

        int greatestOwner(int cell, int day, int known) {
            int best = 0;
            int most = 0;
            for (int owner = 0; owner < OWNERS; owner++) {
                int has = partsOf(cell, owner, day, known);
                if (has > most) {
                    most = has;
                    best = owner;
                }
            }
            return best;
        }

        /** The seller alone has less by a SALE, from its DAY on, and least on that DAY or one on which it sells more. */
        boolean wouldOwe(int cell, int from, int n, int day) {
            if (partsOf(cell, from, day, size) < n) {
                return true;
            }
            for (int i = 0; i < size; i++) {
                boolean sellsMore = cells[i] == cell && sellers[i] == from && days[i] > day;
                if (sellsMore && partsOf(cell, from, days[i], size) < n) {
                    return true;
                }
            }
            return false;
        }
    }

    /** A number dealt among OWNERS by their PARTS of all CELLS so that it comes out whole. */
    private static final class Shares {
        final int[] parts = new int[OWNERS];
        final int[] dealt = new int[OWNERS];
        final int[] rests = new int[OWNERS];

        void lay(int sum) {
            int left = sum;
            for (int owner = 0; owner < OWNERS; owner++) {
                int product = sum * parts[owner];
                dealt[owner] = product / ALL_PARTS;
                rests[owner] = product % ALL_PARTS;
                left -= dealt[owner];
            }
            // The remainders are each below 360, so fewer than 8 are left.
            for (int given = 0; given < left && given < OWNERS; given++) {
                int owner = greatestRest();
                dealt[owner]++;
                rests[owner] = NONE;
            }
        }

        private int greatestRest() {
            int best = 0;
            for (int owner = 1; owner < OWNERS; owner++) {
                if (rests[owner] > rests[best]) {
                    best = owner;
                }
            }
            return best;
        }

        /** Who has the thing at a place, when they are dealt in order, OWNER 0 first. */
        int ownerAt(int place) {
            int end = 0;
            for (int owner = 0; owner < OWNERS; owner++) {
                end += dealt[owner];
                if (place < end) {
                    return owner;
                }
            }
            return NOBODY;
        }
    }

    /** The RODS in a row. */
    private static final class Bank {
        static final int EARTH = 0, STONE = 1, POSTS = 2;
        static final int NO_SLUICE = 0, OPEN = 2, BY_TIDE = 3;

        final int[] cells = new int[MOST_RODS];
        final int[] kinds = new int[MOST_RODS];
        final int[] heights = new int[MOST_RODS];
        final int[] sluices = new int[MOST_RODS];
        final int[] breaks = new int[MOST_RODS];
        final int[] worn = new int[MOST_RODS];
        final int[] viewed = new int[MOST_RODS];
        /** 1 for each ROD that BROKE in this TIDE. */
        final int[] brokeNow = new int[MOST_RODS];
        final int[] mended = new int[OWNERS];
        int size;

        int add(int cell, int kind, int height) {
            if (size >= MOST_RODS) {
                return FULL;
            }
            cells[size] = cell;
            kinds[size] = kind;
            heights[size] = height;
            viewed[size] = NONE;
            size++;
            return size - 1;
        }

        void beginTide() {
            Arrays.fill(brokeNow, 0);
        }

        int brokenInTide() {
            int sum = 0;
            for (int broke : brokeNow) {
                sum += broke;
            }
            return sum;
        }

        void meetSea(int rod, int sea, int wind, Land land) {
            int over = sea - heights[rod];
            if (over > 0) {
                land.letSeaIn(cells[rod], 10 * over);
            }
            if (over >= 20) {
                breakDown(rod);
            } else if (over > -5) {
                wearDown(rod, wearOf(kinds[rod], wind, over));
            }
        }

        private static int wearOf(int kind, int wind, int over) {
            int wear = over >= 10 ? 2 : 0;
            if (kind == EARTH) {
                return wear + 1 + wind;
            }
            return kind == POSTS ? wear + (1 + wind) / 2 : wear;
        }

        private void breakDown(int rod) {
            int height = heights[rod];
            int rest = kinds[rod] == STONE ? 2 * height / 3 : height / 2;
            wearDown(rod, height - rest);
            breaks[rod]++;
            brokeNow[rod] = 1;
        }

        private void wearDown(int rod, int wear) {
            int taken = Math.min(wear, heights[rod]);
            heights[rod] -= taken;
            worn[rod] += taken;
        }

        void runSluice(int rod, int sea, Land land) {
            int how = sluices[rod];
            int cell = cells[rod];
            int above = land.surface(cell) - sea;
            if (above > 0 && (how == OPEN || how == BY_TIDE)) {
                land.letOut(cell, 5 * above);
            } else if (above < 0 && how == OPEN) {
                land.letSeaIn(cell, -5 * above);
            }
        }
    }

    /** The HERDS; a drowned one stays where it drowned. */
    private static final class Herds {
        final int[] places = new int[MOST_HERDS];
        final boolean[] drowned = new boolean[MOST_HERDS];
        int size;

        int add(int cell) {
            if (size >= MOST_HERDS) {
                return FULL;
            }
            places[size] = cell;
            size++;
            return size - 1;
        }

        int alive() {
            int sum = 0;
            for (int herd = 0; herd < size; herd++) {
                sum += drowned[herd] ? 0 : 1;
            }
            return sum;
        }

        void flee(Land land) {
            for (int herd = 0; herd < size; herd++) {
                if (drowned[herd]) {
                    continue;
                }
                if (land.waters[places[herd]] >= 200) {
                    places[herd] = land.refuge(places[herd]);
                }
                drowned[herd] = land.waters[places[herd]] >= 500;
            }
        }
    }

    /** THE WAY from a CELL to a LEVEL, or the first shut GATE on it. */
    private static final class Ways {
        /** A shut GATE counts more than all moves of any way. */
        static final int SHUT_GATE = 1000, FAR = 1000000;

        final int[] costs = new int[CELLS];
        int target;
        int moves;
        int ahead;
        int behind;

        void seek(Land land, int from, int level) {
            measure(land, from);
            target = nearest(land, level);
            ahead = NONE;
            behind = NONE;
            moves = target == NONE ? 0 : costs[target];
            if (moves >= SHUT_GATE) {
                measure(land, target);
                walkToGate(land, from);
            }
        }

        private static int moveCost(Land land, int cell, int next) {
            return land.isShut(cell, next) ? SHUT_GATE + 1 : 1;
        }

        /** The least cost between one CELL and every other. */
        private void measure(Land land, int from) {
            Arrays.fill(costs, FAR);
            costs[from] = 0;
            boolean changed = true;
            for (int round = 0; round < CELLS && changed; round++) {
                changed = false;
                for (int cell = 0; cell < CELLS; cell++) {
                    if (improve(land, cell)) {
                        changed = true;
                    }
                }
            }
        }

        private boolean improve(Land land, int cell) {
            int was = costs[cell];
            for (int side = 0; side < NEIGHBOURS; side++) {
                int next = Land.neighbour(cell, side);
                if (next != NONE) {
                    costs[cell] = Math.min(costs[cell], costs[next] + moveCost(land, cell, next));
                }
            }
            return costs[cell] < was;
        }

        private int nearest(Land land, int level) {
            int best = NONE;
            for (int cell = 0; cell < CELLS; cell++) {
                boolean high = land.levels[cell] >= level;
                if (high && (best == NONE || costs[cell] < costs[best])) {
                    best = cell;
                }
            }
            return best;
        }

        /** Goes by the costs towards the target, by the first side of several, up to the first shut GATE. */
        private void walkToGate(Land land, int from) {
            int cell = from;
            for (int step = 0; step < CELLS && cell != NONE && ahead == NONE; step++) {
                int next = onward(land, cell);
                if (next != NONE && land.isShut(cell, next)) {
                    ahead = cell;
                    behind = next;
                }
                cell = next;
            }
        }

        private int onward(Land land, int cell) {
            for (int side = 0; side < NEIGHBOURS; side++) {
                int next = Land.neighbour(cell, side);
                if (next != NONE && costs[cell] == costs[next] + moveCost(land, cell, next)) {
                    return next;
                }
            }
            return NONE;
        }
    }

    /** What the CLAUSES of one text say. */
    private static final class Custom {
        /** How a rule names its MENDER: an OWNER's number, or one of these. */
        static final int FRONT = 8, ACRES = 9;

        int day;
        int height;
        int fine;
        int views;
        int scots;
        final int[] firsts = new int[MOST_CLAUSES];
        final int[] lasts = new int[MOST_CLAUSES];
        final int[] hows = new int[MOST_CLAUSES];
        int rules;

        Custom() {
            views = 99;
        }

        void clear() {
            height = 0;
            fine = 0;
            views = 99;
            scots = 0;
            rules = 0;
        }

        void addRule(int first, int last, int how) {
            if (rules >= MOST_CLAUSES) {
                return;
            }
            firsts[rules] = first;
            lasts[rules] = last;
            hows[rules] = how;
            rules++;
        }

        int ruleOf(int rod) {
            for (int rule = rules - 1; rule >= 0; rule--) {
                if (within(rod, firsts[rule], lasts[rule])) {
                    return rule;
                }
            }
            return NONE;
        }

        int value(int what) {
            switch (what) {
                case 1: return height;
                case 2: return fine;
                case 3: return views;
                case 4: return scots;
                default: return NONE;
            }
        }
    }

    /** THE TAPE and the reading of a CUSTOM from it. */
    private static final class Tape {
        final int[] bytes = new int[MOST_BYTES];
        int size;
        /** The byte that is read next; when reading has failed, the FAULT. */
        int place;

        void append(long w, int n) {
            for (int left = n - 1; left >= 0 && size < MOST_BYTES; left--) {
                bytes[size] = (int) (w >>> (8 * left)) & 255;
                size++;
            }
        }

        /** Whether THE TAPE is a CUSTOM, which is put into the given one. */
        boolean read(Custom custom) {
            custom.clear();
            place = 0;
            for (int clause = 0; clause < MOST_CLAUSES; clause++) {
                if (clause > 0 && !take(';')) {
                    return false;
                }
                if (!takeClause(custom)) {
                    return false;
                }
                if (place >= size) {
                    return true;
                }
            }
            return false;
        }

        private int peek() {
            return place < size && place < MOST_BYTES ? bytes[place] : NONE;
        }

        private boolean take(char sign) {
            if (peek() != sign) {
                return false;
            }
            place++;
            return true;
        }

        private boolean takeAll(String signs) {
            for (int i = 0; i < signs.length(); i++) {
                if (!take(signs.charAt(i))) {
                    return false;
                }
            }
            return true;
        }

        /** A number from least (0 or 1) to most, or NONE with the place on the byte that can't stand there. */
        private int takeNumber(int least, int most) {
            int value = peek() - '0';
            if (!within(value, least, Math.min(9, most))) {
                return NONE;
            }
            place++;
            // No digit may follow a 0; whoever reads on refuses it there.
            while (place < size && value > 0) {
                int digit = peek() - '0';
                if (!within(digit, 0, 9)) {
                    return value;
                }
                if (10 * value + digit > most) {
                    return NONE;
                }
                value = 10 * value + digit;
                place++;
            }
            return value;
        }

        private boolean takeClause(Custom custom) {
            switch (peek()) {
                case 'r': return takeAll("r ") && takeRule(custom);
                case 'h':
                    custom.height = takeValue("h ", 0, MOST_HEIGHT);
                    return custom.height != NONE;
                case 'f':
                    custom.fine = takeValue("f ", 0, 999);
                    return custom.fine != NONE;
                case 'v':
                    custom.views = takeValue("v ", 1, 99);
                    return custom.views != NONE;
                case 's':
                    custom.scots = takeValue("s ", 0, 999);
                    return custom.scots != NONE;
                default: return false;
            }
        }

        private int takeValue(String letter, int least, int most) {
            return takeAll(letter) ? takeNumber(least, most) : NONE;
        }

        private boolean takeRule(Custom custom) {
            int first = takeNumber(0, MOST_RODS - 1);
            if (first == NONE || !take('-')) {
                return false;
            }
            int last = takeNumber(0, MOST_RODS - 1);
            if (last == NONE || !take(' ')) {
                return false;
            }
            int how = takeHow();
            if (how == NONE) {
                return false;
            }
            custom.addRule(first, last, how);
            return true;
        }

        private int takeHow() {
            switch (peek()) {
                case 'f': return takeAll("front") ? Custom.FRONT : NONE;
                case 'a': return takeAll("acres") ? Custom.ACRES : NONE;
                case 'o': return takeAll("own ") ? takeNumber(0, OWNERS - 1) : NONE;
                default: return NONE;
            }
        }
    }

    /** The CUSTOMS in the order in which COURTS put them in force. */
    private static final class Courts {
        final Custom[] entered = new Custom[MOST_COURTS];
        /** Stands in where no CUSTOM is in force. */
        final Custom empty = new Custom();
        int size;

        Courts() {
            for (int court = 0; court < MOST_COURTS; court++) {
                entered[court] = new Custom();
            }
        }

        int inForce(int day, int known) {
            int best = NONE;
            int first = Math.min(known, size);
            for (int court = 0; court < first; court++) {
                boolean begun = entered[court].day <= day;
                if (begun && (best == NONE || entered[court].day >= entered[best].day)) {
                    best = court;
                }
            }
            return best;
        }

        Custom customOf(int court) {
            return within(court, 0, size - 1) ? entered[court] : empty;
        }
    }

    /** All FAULTS that were, and of each ROD the one that is there. */
    private static final class Faults {
        final int[] owners = new int[MOST_FAULTS];
        final int[] begun = new int[MOST_FAULTS];
        final int[] ended = new int[MOST_FAULTS];
        final int[] missing = new int[MOST_FAULTS];
        final int[] daily = new int[MOST_FAULTS];
        final int[] heights = new int[MOST_FAULTS];
        final int[] open = new int[MOST_RODS];
        int size;

        Faults() {
            Arrays.fill(open, NONE);
        }

        void begin(int rod, int owner, int day, int lacks, Custom custom) {
            if (size >= MOST_FAULTS) {
                return;
            }
            owners[size] = owner;
            begun[size] = day;
            ended[size] = NONE;
            missing[size] = lacks;
            daily[size] = custom.fine;
            heights[size] = custom.height;
            open[rod] = size;
            size++;
        }

        void end(int rod, int day) {
            if (open[rod] != NONE) {
                ended[open[rod]] = day;
                open[rod] = NONE;
            }
        }

        /** The height that counts is the one that the CUSTOM asked at the VIEW. */
        void endIfMended(int rod, int height, int day) {
            if (open[rod] != NONE && height >= heights[open[rod]]) {
                end(rod, day);
            }
        }

        int fineSoFar(int fault, int day) {
            int last = ended[fault] == NONE ? day : ended[fault];
            return daily[fault] * (last - begun[fault]);
        }

        int owedBy(int owner, int day) {
            int sum = 0;
            for (int fault = 0; fault < size; fault++) {
                sum += owners[fault] == owner ? fineSoFar(fault, day) : 0;
            }
            return sum;
        }

        int openOnes() {
            int sum = 0;
            for (int fault : open) {
                sum += fault == NONE ? 0 : 1;
            }
            return sum;
        }
    }

    /**
     * The best WORKS. A set is weighed as one number, WORTH ahead and the bits, turned round, behind:
     * so the greater one is the better one, and a ROD more always adds the same.
     */
    private static final class Plan {
        static final int BITS = 24;
        static final long NO_RODS = (1L << BITS) - 1, IMPOSSIBLE = -1;

        /** The best weights for so many HANDS at most, by how many of the latest RODS side by side are in. */
        final long[] out = new long[MOST_HANDS + 1];
        final long[] single = new long[MOST_HANDS + 1];
        final long[] pair = new long[MOST_HANDS + 1];
        int worth;
        int set;
        int hands;

        void draw(Bank bank, Land land, int due, int limit) {
            Arrays.fill(out, NO_RODS);
            Arrays.fill(single, IMPOSSIBLE);
            Arrays.fill(pair, IMPOSSIBLE);
            // More HANDS than all RODS together need change nothing.
            int enough = Math.min(limit, allNeeds(bank, due));
            for (int rod = 0; rod < bank.size; rod++) {
                long gain = (worthOf(bank.cells[rod], land, due) << BITS) - (1L << rod);
                consider(due - bank.heights[rod], gain, enough);
            }
            long best = bestFor(enough);
            worth = (int) (best >> BITS);
            set = (int) (NO_RODS - (best & NO_RODS));
            hands = handsFor(bank, due);
        }

        private static int allNeeds(Bank bank, int due) {
            int sum = 0;
            for (int rod = 0; rod < bank.size; rod++) {
                sum += Math.max(0, due - bank.heights[rod]);
            }
            return sum;
        }

        private long bestFor(int n) {
            return Math.max(out[n], Math.max(single[n], pair[n]));
        }

        /** One ROD more: from many HANDS to few, since each row is made of the one for fewer HANDS. */
        private void consider(int need, long gain, int limit) {
            for (int n = limit; n >= 0; n--) {
                long without = bestFor(n);
                boolean fits = need > 0 && need <= n;
                pair[n] = fits && single[n - need] != IMPOSSIBLE ? single[n - need] + gain : IMPOSSIBLE;
                single[n] = fits ? out[n - need] + gain : IMPOSSIBLE;
                out[n] = without;
            }
        }

        private static long worthOf(int cell, Land land, int due) {
            int first = cell - cell % COLUMNS;
            long sum = 0;
            for (int i = first; i < first + COLUMNS; i++) {
                sum += Math.max(0, due - land.levels[i]);
            }
            return sum;
        }

        private int handsFor(Bank bank, int due) {
            int sum = 0;
            for (int rod = 0; rod < bank.size; rod++) {
                sum += (set >> rod & 1) == 1 ? due - bank.heights[rod] : 0;
            }
            return sum;
        }
    }
}
