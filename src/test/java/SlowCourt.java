import java.util.ArrayList;
import java.util.Arrays;
import java.util.Comparator;
import java.util.List;
import java.util.PriorityQueue;
import java.util.TreeSet;
import java.util.regex.Matcher;
import java.util.regex.Pattern;

/** The document once more, written another way than the class and slowly: for RandomRunsTest. */
final class SlowCourt {
    private static final int NONE = -1, BAD = -2, STATE = -3, FULL = -4;
    private static final String ROD_NUMBER = "(?:[0-9]|1[0-9]|2[0-3])";
    private static final String CLAUSE = "(?:r " + ROD_NUMBER + "-" + ROD_NUMBER + " (?:front|own [0-7]|acres)"
            + "|h (?:0|[1-9][0-9]?)|f (?:0|[1-9][0-9]{0,2})|v [1-9][0-9]?|s (?:0|[1-9][0-9]{0,2}))";
    private static final Pattern CUSTOM = Pattern.compile(CLAUSE + "(?:;" + CLAUSE + "){0,9}");

    record Sale(int cell, int from, int to, int parts, int day) { }

    record Court(int number, int day, String[] clauses) { }

    record Walk(int cell, int shut, String sides) {
        int moves() {
            return sides.length();
        }
    }

    static final class Rod {
        int cell, kind, height, sluice, broke, wore;
        int viewed = NONE;
        Fault fault;
    }

    static final class Fault {
        int owner, day, missing, daily, height, fine;
        boolean ended;
    }

    static final class Herd {
        int cell;
        boolean drowned;
    }

    final int[] level = new int[30], water = new int[30], peak = new int[30], salt = new int[30];
    final TreeSet<String> shutGates = new TreeSet<>();
    final List<Sale> sales = new ArrayList<>();
    final List<Court> courts = new ArrayList<>();
    final List<Rod> rods = new ArrayList<>();
    final List<Herd> herds = new ArrayList<>();
    final List<Fault> faults = new ArrayList<>();
    final int[] mendedBy = new int[8];
    final StringBuilder tape = new StringBuilder();
    int day, tides;
    long came, went;

    // ---- land

    int level(int cell, int n) {
        if (cell < 0 || cell > 29) return NONE;
        if (n < 0 || n > 60) return BAD;
        int was = level[cell];
        level[cell] = n;
        return was;
    }

    int cell(int cell, int what) {
        if (cell < 0 || cell > 29 || what < 0 || what > 4) return NONE;
        return new int[] {level[cell], water[cell], level[cell] + water[cell] / 100, peak[cell], salt[cell]}[what];
    }

    int sell(int cell, int from, int to, int parts, int day) {
        if (cell < 0 || cell > 29 || from < 0 || from > 7 || to < 0 || to > 7) return NONE;
        if (parts < 1 || parts > 12 || day < 0 || day > 9999 || from == to) return BAD;
        if (sales.size() == 120) return FULL;
        sales.add(new Sale(cell, from, to, parts, day));
        for (Sale s : sales) {
            for (int owner = 0; owner < 8; owner++) {
                if (heldOf(cell, owner, s.day(), sales.size()) < 0) {
                    sales.remove(sales.size() - 1);
                    return STATE;
                }
            }
        }
        return sales.size();
    }

    int heldOf(int cell, int owner, int day, int known) {
        int sum = owner == 0 ? 12 : 0;
        for (Sale s : sales.subList(0, known)) {
            if (s.cell() == cell && s.day() <= day && s.to() == owner) sum += s.parts();
            if (s.cell() == cell && s.day() <= day && s.from() == owner) sum -= s.parts();
        }
        return sum;
    }

    int heldOfAll(int owner, int day, int known) {
        int sum = 0;
        for (int cell = 0; cell < 30; cell++) sum += heldOf(cell, owner, day, known);
        return sum;
    }

    int held(int cell, int owner, int day, int known) {
        if (cell < -1 || cell > 29 || owner < 0 || owner > 7 || known < 0 || known > sales.size()) return NONE;
        if (day < 0 || day > 9999) return BAD;
        return cell == -1 ? heldOfAll(owner, day, known) : heldOf(cell, owner, day, known);
    }

    // ---- rods, sluices, gates, herds

    int rod(int cell, int kind, int height) {
        if (cell < 0 || cell > 29) return NONE;
        if (kind < 0 || kind > 2 || height < 0 || height > 99) return BAD;
        if (rods.size() == 24) return FULL;
        Rod rod = new Rod();
        rod.cell = cell;
        rod.kind = kind;
        rod.height = height;
        rods.add(rod);
        return rods.size() - 1;
    }

    boolean noRod(int rod) {
        return rod < 0 || rod >= rods.size();
    }

    int sluice(int rod, int how) {
        if (noRod(rod)) return NONE;
        if (how < 0 || how > 3) return BAD;
        int was = rods.get(rod).sluice;
        rods.get(rod).sluice = how;
        return was;
    }

    int about(int rod, int what) {
        if (noRod(rod) || what < 0 || what > 7) return NONE;
        Rod r = rods.get(rod);
        int due = day - Math.max(0, r.viewed) >= number("v", courtOf(day, courts.size()), 99) ? 1 : 0;
        return new int[] {r.cell, r.kind, r.height, r.sluice, r.broke, r.wore, r.viewed, due}[what];
    }

    /** 0 left, 1 right, 2 above, 3 below. */
    static int beside(int cell, int side) {
        int row = cell / 6 + new int[] {0, 0, -1, 1}[side];
        int column = cell % 6 + new int[] {-1, 1, 0, 0}[side];
        return row < 0 || row > 4 || column < 0 || column > 5 ? NONE : 6 * row + column;
    }

    static boolean neighbours(int a, int b) {
        for (int side = 0; side < 4; side++) {
            if (beside(a, side) == b) return true;
        }
        return false;
    }

    static String gateName(int a, int b) {
        return Math.min(a, b) + "/" + Math.max(a, b);
    }

    boolean isOpen(int a, int b) {
        return !shutGates.contains(gateName(a, b));
    }

    int gate(int a, int b, int open) {
        if (a < 0 || a > 29 || b < 0 || b > 29) return NONE;
        if (!neighbours(a, b) || open < 0 || open > 1) return BAD;
        int was = isOpen(a, b) ? 1 : 0;
        if (open == 1) shutGates.remove(gateName(a, b));
        else shutGates.add(gateName(a, b));
        return was;
    }

    int herd(int cell) {
        if (cell < 0 || cell > 29) return NONE;
        if (herds.size() == 6) return FULL;
        Herd herd = new Herd();
        herd.cell = cell;
        herds.add(herd);
        return herds.size() - 1;
    }

    int drive(int herd, int cell) {
        if (herd < 0 || herd >= herds.size() || cell < 0 || cell > 29) return NONE;
        Herd h = herds.get(herd);
        if (!neighbours(h.cell, cell)) return BAD;
        if (h.drowned || !isOpen(h.cell, cell)) return STATE;
        int was = h.cell;
        h.cell = cell;
        return was;
    }

    int where(int herd) {
        if (herd < 0 || herd >= herds.size()) return NONE;
        return herds.get(herd).drowned ? -5 : herds.get(herd).cell;
    }

    int way(int herd, int n, int what) {
        if (herd < 0 || herd >= herds.size() || what < 0 || what > 1) return NONE;
        if (n < 0 || n > 60) return BAD;
        if (herds.get(herd).drowned) return STATE;
        int from = herds.get(herd).cell;
        Walk best = null;
        Comparator<Walk> order = Comparator.comparingInt(Walk::shut).thenComparingInt(Walk::moves)
                .thenComparingInt(Walk::cell);
        for (Walk w : bestWalks(from)) {
            if (level[w.cell()] >= n && (best == null || order.compare(w, best) < 0)) best = w;
        }
        if (best == null) return -50;
        if (best.shut() == 0) return what == 0 ? best.moves() : best.cell();
        int cell = from;
        for (char side : best.sides().toCharArray()) {
            int next = beside(cell, side - '0');
            if (!isOpen(cell, next)) return -100 - (what == 0 ? cell : next);
            cell = next;
        }
        throw new IllegalStateException("a way with shut gates and no shut gate");
    }

    /** To each CELL the best way by shut GATES, moves and sides: whole ways are kept and taken best first. */
    private List<Walk> bestWalks(int from) {
        PriorityQueue<Walk> queue = new PriorityQueue<>(Comparator.comparingInt(Walk::shut)
                .thenComparingInt(Walk::moves).thenComparing(Walk::sides));
        queue.add(new Walk(from, 0, ""));
        boolean[] reached = new boolean[30];
        List<Walk> walks = new ArrayList<>();
        while (!queue.isEmpty()) {
            Walk w = queue.remove();
            if (reached[w.cell()]) continue;
            reached[w.cell()] = true;
            walks.add(w);
            for (int side = 0; side < 4; side++) {
                int next = beside(w.cell(), side);
                if (next == NONE || reached[next]) continue;
                queue.add(new Walk(next, w.shut() + (isOpen(w.cell(), next) ? 0 : 1), w.sides() + side));
            }
        }
        return walks;
    }

    // ---- days, tides

    int tide(int high, int wind, int rain) {
        if (high < 0 || high > 120 || wind < 0 || wind > 3 || rain < 0 || rain > 50) return BAD;
        if (day == 9999) return FULL;
        Arrays.fill(peak, 0);
        TreeSet<Integer> broken = new TreeSet<>();
        boolean seaCame = false;
        for (int hour = 1; hour <= 6; hour++) {
            int sea = high * (hour <= 3 ? hour + 1 : 7 - hour) / 4;
            for (int cell = 0; cell < 30; cell++) {
                water[cell] += rain;
                came += rain;
            }
            for (int i = 0; i < rods.size(); i++) {
                Rod r = rods.get(i);
                if (sea > r.height) {
                    water[r.cell] += 10 * (sea - r.height);
                    came += 10 * (sea - r.height);
                    seaCame = true;
                }
                int was = r.height;
                if (sea - r.height >= 20) {
                    r.height = r.kind == 1 ? r.height * 2 / 3 : r.height / 2;
                    r.broke++;
                    broken.add(i);
                } else if (sea > r.height - 5) {
                    int wear = r.kind == 0 ? 1 + wind : r.kind == 2 ? (1 + wind) / 2 : 0;
                    if (sea - r.height >= 10) wear += 2;
                    r.height = Math.max(0, r.height - wear);
                }
                r.wore += was - r.height;
            }
            for (Rod r : rods) {
                int surface = level[r.cell] + water[r.cell] / 100;
                if (surface > sea && r.sluice >= 2) {
                    int out = Math.min(water[r.cell], 5 * (surface - sea));
                    water[r.cell] -= out;
                    went += out;
                }
                if (sea > surface && r.sluice == 2) {
                    water[r.cell] += 5 * (sea - surface);
                    came += 5 * (sea - surface);
                    seaCame = true;
                }
            }
            for (int cell = 0; cell < 30; cell++) {
                if (cell % 6 < 5) even(cell, cell + 1);
                if (cell < 24) even(cell, cell + 6);
            }
            for (int cell = 0; cell < 30; cell++) peak[cell] = Math.max(peak[cell], water[cell]);
            for (Herd h : herds) {
                if (!h.drowned) flee(h);
            }
        }
        for (int cell = 0; seaCame && cell < 30; cell++) {
            int years = Math.min(9, peak[cell] / 200);
            if (years > salt[cell]) salt[cell] = years;
        }
        tides++;
        nextDay();
        return broken.size();
    }

    private void even(int a, int b) {
        int topA = 100 * level[a] + water[a];
        int topB = 100 * level[b] + water[b];
        int from = topA > topB ? a : b;
        int to = topA > topB ? b : a;
        int amount = Math.min(Math.abs(topA - topB) / 4, water[from]);
        water[from] -= amount;
        water[to] += amount;
    }

    private void flee(Herd h) {
        if (water[h.cell] >= 200) {
            List<Integer> ways = new ArrayList<>();
            for (int side = 0; side < 4; side++) {
                int next = beside(h.cell, side);
                if (next != NONE && isOpen(h.cell, next)) ways.add(next);
            }
            ways.sort(Comparator.comparingInt(c -> water[c]));
            if (!ways.isEmpty() && water[ways.get(0)] < water[h.cell]) h.cell = ways.get(0);
        }
        if (water[h.cell] >= 500) h.drowned = true;
    }

    /** Every DAY that goes by adds to the FINES of the FAULTS that are there. */
    private void nextDay() {
        day++;
        for (Fault f : faults) {
            if (!f.ended) f.fine += f.daily;
        }
    }

    int pass(int n) {
        if (n < 1 || n > 400) return BAD;
        if (day + n > 9999) return FULL;
        for (int i = 0; i < n; i++) nextDay();
        return day;
    }

    int year() {
        int salted = 0;
        for (int cell = 0; cell < 30; cell++) {
            if (salt[cell] > 0) salt[cell]--;
            if (salt[cell] > 0) salted++;
        }
        return salted;
    }

    // ---- customs, courts

    int feed(long w, int n) {
        if (n < 1 || n > 8) return BAD;
        if (tape.length() + n > 160) return FULL;
        byte[] bytes = java.nio.ByteBuffer.allocate(8).putLong(w).array();
        for (int i = 8 - n; i < 8; i++) tape.append((char) (bytes[i] & 255));
        return tape.length();
    }

    int court(int day) {
        if (day < 0 || day > 9999) return BAD;
        if (courts.size() == 12) return FULL;
        String text = tape.toString();
        tape.setLength(0);
        int fault = faultOf(text);
        if (fault != NONE) return -10 - fault;
        courts.add(new Court(courts.size(), day, text.split(";")));
        return courts.size() - 1;
    }

    /** A text can go on to be a CUSTOM where the pattern fits it or would have gone on reading at its end. */
    static int faultOf(String text) {
        for (int size = 1; size <= text.length(); size++) {
            Matcher m = CUSTOM.matcher(text.substring(0, size));
            if (!m.matches() && !m.hitEnd()) return size - 1;
        }
        return CUSTOM.matcher(text).matches() ? NONE : text.length();
    }

    Court courtOf(int day, int known) {
        return courts.subList(0, known).stream().filter(c -> c.day() <= day)
                .max(Comparator.comparingInt(Court::day).thenComparingInt(Court::number)).orElse(null);
    }

    int number(String letter, Court court, int without) {
        int n = without;
        if (court != null) {
            for (String clause : court.clauses()) {
                if (clause.startsWith(letter)) n = Integer.parseInt(clause.substring(2));
            }
        }
        return n;
    }

    int custom(int day, int known, int what) {
        if (known < 0 || known > courts.size() || what < 0 || what > 4) return NONE;
        Court c = courtOf(day, known);
        if (c == null) return NONE;
        if (day < 0 || day > 9999) return BAD;
        return what == 0 ? c.number() : number("?hfvs".substring(what, what + 1), c, what == 3 ? 99 : 0);
    }

    int mender(int rod, int day, int courts, int sales) {
        if (noRod(rod) || courts < 0 || courts > this.courts.size() || sales < 0 || sales > this.sales.size()) {
            return NONE;
        }
        if (day < 0 || day > 9999) return BAD;
        Court c = courtOf(day, courts);
        int found = -5;
        if (c != null) {
            for (String clause : c.clauses()) {
                if (!clause.startsWith("r")) continue;
                String[] words = clause.split("[ -]");
                int a = Integer.parseInt(words[1]);
                int b = Integer.parseInt(words[2]);
                if (a <= rod && rod <= b) found = menderBy(words, rod, day, sales);
            }
        }
        return found;
    }

    private int menderBy(String[] words, int rod, int day, int sales) {
        if (words[3].equals("own")) return Integer.parseInt(words[4]);
        int a = Integer.parseInt(words[1]);
        int b = Integer.parseInt(words[2]);
        if (words[3].equals("acres")) {
            int[] shares = shares(b - a + 1, day, sales);
            List<Integer> dealt = new ArrayList<>();
            for (int owner = 0; owner < 8; owner++) {
                for (int i = 0; i < shares[owner]; i++) dealt.add(owner);
            }
            return dealt.get(rod - a);
        }
        int most = 0;
        for (int owner = 1; owner < 8; owner++) {
            int cell = rods.get(rod).cell;
            if (heldOf(cell, owner, day, sales) > heldOf(cell, most, day, sales)) most = owner;
        }
        return most;
    }

    int[] shares(int sum, int day, int known) {
        int[] shares = new int[8];
        long[] rests = new long[8];
        List<Integer> owners = new ArrayList<>();
        int left = sum;
        for (int owner = 0; owner < 8; owner++) {
            long product = (long) sum * heldOfAll(owner, day, known);
            shares[owner] = (int) (product / 360);
            rests[owner] = product % 360;
            left -= shares[owner];
            owners.add(owner);
        }
        owners.sort(Comparator.comparingLong(o -> -rests[o]));
        for (int i = 0; i < left; i++) shares[owners.get(i)]++;
        return shares;
    }

    // ---- views, works, scots

    int view(int rod) {
        if (noRod(rod)) return NONE;
        Rod r = rods.get(rod);
        Court now = courtOf(day, courts.size());
        int h = number("h", now, 0);
        boolean low = r.height < h;
        if (low && faults.size() == 60) return FULL;
        if (r.fault != null) r.fault.ended = true;
        r.fault = null;
        r.viewed = day;
        if (!low) return 0;
        Fault f = new Fault();
        f.owner = mender(rod, day, courts.size(), sales.size());
        f.day = day;
        f.missing = h - r.height;
        f.daily = number("f", now, 0);
        f.height = h;
        r.fault = f;
        faults.add(f);
        return f.missing;
    }

    int mend(int rod, int owner, int n) {
        if (noRod(rod) || owner < 0 || owner > 7) return NONE;
        Rod r = rods.get(rod);
        if (n < 1 || n > 99 || r.height + n > 99) return BAD;
        r.height += n;
        mendedBy[owner] += n;
        if (r.fault != null && r.height >= r.fault.height) {
            r.fault.ended = true;
            r.fault = null;
        }
        return r.height;
    }

    int fault(int rod, int what) {
        if (noRod(rod) || what < 0 || what > 3 || rods.get(rod).fault == null) return NONE;
        Fault f = rods.get(rod).fault;
        return new int[] {f.owner, f.day, f.missing, f.fine}[what];
    }

    int fines(int owner) {
        if (owner < 0 || owner > 7) return NONE;
        long sum = 0;
        for (Fault f : faults) sum += f.owner == owner ? f.fine : 0;
        return (int) (sum % 1000000);
    }

    int mended(int owner) {
        return owner < 0 || owner > 7 ? NONE : mendedBy[owner];
    }

    int works(int hands, int what) {
        if (what < 0 || what > 2) return NONE;
        if (hands < 0 || hands > 200) return BAD;
        int h = number("h", courtOf(day, courts.size()), 0);
        int low = 0;
        int[] need = new int[24];
        int[] worth = new int[24];
        for (int i = 0; i < rods.size(); i++) {
            need[i] = h - rods.get(i).height;
            if (need[i] > 0) low |= 1 << i;
            for (int cell = 0; cell < 30; cell++) {
                if (cell / 6 == rods.get(i).cell / 6 && level[cell] < h) worth[i] += h - level[cell];
            }
        }
        int[] best = {0, 0, 0};
        for (int set = 1; set < 1 << rods.size(); set++) {
            if ((set & ~low) != 0 || (set & set >> 1 & set >> 2) != 0) continue;
            int takes = 0;
            int gives = 0;
            for (int i = 0; i < rods.size(); i++) {
                if ((set >> i & 1) == 1) {
                    takes += need[i];
                    gives += worth[i];
                }
            }
            if (takes <= hands && gives > best[0]) best = new int[] {gives, set, takes};
        }
        return best[what];
    }

    int scot(int sum, int owner) {
        if (owner < 0 || owner > 7) return NONE;
        if (sum < 0 || sum > 100000) return BAD;
        return shares(sum, day, sales.size())[owner];
    }

    int count(int what) {
        if (what < 0 || what > 10) return NONE;
        int live = (int) herds.stream().filter(h -> !h.drowned).count();
        int bound = (int) rods.stream().filter(r -> r.fault != null).count();
        int all = Arrays.stream(water).sum();
        return new int[] {day, rods.size(), sales.size(), courts.size(), live, bound, (int) (came % 1000000),
            (int) (went % 1000000), all, tape.length(), tides}[what];
    }
}
