import java.util.ArrayList;
import java.util.Arrays;
import java.util.List;

/** Section 6 of the document: the order of refusals, and that a refused call changes nothing that a later one shows. */
public final class RefusalsTest {
    private static final int NONE = MarshCourt.NONE, BAD = MarshCourt.BAD, STATE = MarshCourt.STATE, FULL = MarshCourt.FULL;
    private static final int MOST_CALLS = 512;

    /** Calls that make a world, calls that are refused in it with their refusals, and how many SALES and COURTS it has. */
    private static final class World {
        final String name;
        final List<String> calls = new ArrayList<>();
        final List<String> refused = new ArrayList<>();
        final List<Integer> refusals = new ArrayList<>();
        int rods, herds, sales, courts;

        World(String name) {
            this.name = name;
        }

        World with(String... more) {
            calls.addAll(Arrays.asList(more));
            return this;
        }

        World tape(String text) {
            for (char sign : text.toCharArray()) {
                calls.add("feed(" + (int) sign + ", 1)");
            }
            return this;
        }

        World refuses(int refusal, String... some) {
            for (String call : some) {
                refused.add(call);
                refusals.add(refusal);
            }
            return this;
        }

        World has(int someRods, int someHerds, int someSales, int someCourts) {
            rods = someRods;
            herds = someHerds;
            sales = someSales;
            courts = someCourts;
            return this;
        }
    }

    public static void main(String[] args) {
        Run.of("REFUSALS, of several the first one told: NONE there is no such CELL, OWNER, ROD, HERD, COURT, what, i; BAD a number is not as told; STATE as told; FULL. They change nothing.");
        changesNothing(empty());
        changesNothing(ordinary());
        changesNothing(full());
        changesNothing(lastDay());
        Run.finish();
    }

    private static World empty() {
        World w = new World("a new object").has(0, 0, 0, 0);
        w.refuses(NONE, "sluice(0, 0)", "about(0, 0)", "drive(0, 0)", "where(0)", "way(0, 0, 0)", "view(0)", "mend(0, 0, 1)");
        w.refuses(NONE, "fault(0, 0)", "mender(0, 0, 0, 0)", "custom(0, 0, 0)", "custom(0, 1, 0)", "held(0, 0, 0, 1)");
        return w.refuses(STATE, "sell(0, 1, 2, 1, 0)", "sell(29, 7, 0, 12, 9999)").refuses(-10, "court(0)");
    }

    /** Some of everything; CELL 0 is a pit in which HERD 1 drowned, and HERD 0 fled to CELL 15. */
    private static World ordinary() {
        World w = new World("some of everything").has(4, 3, 3, 2);
        w.with("level(1, 60)", "level(6, 60)", "level(20, 33)", "level(29, 12)", "rod(0, 0, 40)", "rod(8, 1, 30)", "rod(15, 2, 55)", "rod(29, 0, 99)");
        w.with("sluice(0, 2)", "sluice(2, 3)", "gate(0, 1, 0)", "gate(0, 6, 0)", "gate(14, 20, 0)", "herd(14)", "herd(0)", "herd(27)");
        w.tape("h 60;f 7;v 9;s 3;r 0-1 front;r 2-3 acres").with("court(0)").tape("h 70;f 100;r 0-3 own 6").with("court(9)");
        w.with("sell(0, 0, 3, 7, 2)", "sell(8, 0, 5, 12, 4)", "sell(0, 3, 4, 2, 9)", "view(0)", "view(1)", "pass(3)", "tide(70, 2, 5)", "tide(60, 1, 0)");
        w.with("view(2)", "mend(1, 2, 20)", "mend(0, 7, 4)", "gate(15, 21, 0)", "pass(2)", "year()").tape("h 5;v");
        w.refuses(NONE, "level(-1, 5)", "level(30, 5)", "level(30, 61)", "cell(-1, 0)", "cell(30, 0)", "cell(0, -1)", "cell(0, 5)");
        w.refuses(BAD, "level(0, -1)", "level(0, 61)");
        w.refuses(NONE, "sell(-1, 0, 1, 1, 0)", "sell(30, 0, 1, 1, 0)", "sell(1, -1, 1, 1, 0)", "sell(1, 8, 1, 1, 0)", "sell(1, 0, -1, 1, 0)");
        w.refuses(NONE, "sell(1, 0, 8, 1, 0)", "sell(30, 0, 0, 13, -1)", "sell(0, 8, 8, 1, 0)");
        w.refuses(BAD, "sell(1, 0, 1, 0, 0)", "sell(1, 0, 1, 13, 0)", "sell(1, 0, 1, 1, -1)", "sell(1, 0, 1, 1, 10000)", "sell(1, 0, 0, 1, 0)", "sell(1, 3, 3, 1, 0)");
        w.refuses(BAD, "sell(0, 7, 6, 13, 0)", "sell(0, 7, 7, 12, 0)");
        w.refuses(STATE, "sell(0, 0, 1, 6, 9)", "sell(0, 3, 1, 6, 2)", "sell(0, 3, 1, 8, 0)", "sell(8, 0, 1, 1, 0)", "sell(1, 1, 0, 1, 0)");
        w.refuses(NONE, "held(-2, 0, 0, 0)", "held(30, 0, 0, 0)", "held(0, -1, 0, 0)", "held(0, 8, 0, 0)", "held(0, 0, 0, -1)", "held(0, 0, 0, 4)", "held(0, 0, -1, 4)");
        w.refuses(BAD, "held(0, 0, -1, 3)", "held(-1, 0, 10000, 0)");
        w.refuses(NONE, "rod(-1, 0, 0)", "rod(30, 0, 0)", "rod(30, 3, 100)").refuses(BAD, "rod(0, -1, 0)", "rod(0, 3, 0)", "rod(0, 0, -1)", "rod(0, 0, 100)");
        w.refuses(NONE, "sluice(-1, 0)", "sluice(4, 0)", "sluice(4, 4)").refuses(BAD, "sluice(0, -1)", "sluice(0, 4)");
        w.refuses(NONE, "about(-1, 0)", "about(4, 0)", "about(0, -1)", "about(0, 8)");
        w.refuses(NONE, "gate(-1, 0, 0)", "gate(0, -1, 0)", "gate(30, 29, 0)", "gate(29, 30, 0)", "gate(24, 30, 2)");
        w.refuses(BAD, "gate(5, 6, 0)", "gate(0, 0, 0)", "gate(0, 2, 0)", "gate(0, 7, 0)", "gate(0, 1, -1)", "gate(2, 3, 2)");
        w.refuses(NONE, "herd(-1)", "herd(30)", "drive(-1, 0)", "drive(3, 0)", "drive(0, -1)", "drive(0, 30)", "drive(1, 30)");
        w.refuses(BAD, "drive(0, 15)", "drive(2, 0)", "drive(1, 0)", "drive(1, 7)").refuses(STATE, "drive(1, 1)", "drive(1, 6)", "drive(0, 21)");
        w.refuses(NONE, "where(-1)", "where(3)", "way(-1, 0, 0)", "way(3, 0, 0)", "way(0, 0, -1)", "way(0, 0, 2)", "way(1, 61, 2)");
        w.refuses(BAD, "way(0, -1, 0)", "way(0, 61, 0)", "way(1, 61, 0)").refuses(STATE, "way(1, 0, 0)", "way(1, 60, 1)");
        w.refuses(BAD, "tide(-1, 0, 0)", "tide(121, 0, 0)", "tide(0, -1, 0)", "tide(0, 4, 0)", "tide(0, 0, -1)", "tide(0, 0, 51)", "tide(121, 4, 51)");
        w.refuses(BAD, "pass(0)", "pass(-1)", "pass(401)", "feed(0, 0)", "feed(0, -1)", "feed(0, 9)", "court(-1)", "court(10000)");
        w.refuses(NONE, "custom(0, -1, 0)", "custom(0, 3, 0)", "custom(0, 2, -1)", "custom(0, 2, 5)", "custom(-1, 2, 0)", "custom(0, 0, 0)");
        w.refuses(BAD, "custom(10000, 2, 0)");
        w.refuses(NONE, "mender(-1, 0, 0, 0)", "mender(4, 0, 0, 0)", "mender(0, 0, -1, 0)", "mender(0, 0, 3, 0)", "mender(0, 0, 0, -1)", "mender(0, 0, 0, 4)");
        w.refuses(NONE, "mender(0, -1, 3, 0)").refuses(BAD, "mender(0, -1, 2, 3)", "mender(0, 10000, 0, 0)");
        w.refuses(NONE, "view(-1)", "view(4)", "mend(-1, 0, 1)", "mend(4, 0, 1)", "mend(0, -1, 1)", "mend(0, 8, 1)", "mend(4, 0, 0)");
        w.refuses(BAD, "mend(0, 0, 0)", "mend(0, 0, -1)", "mend(0, 0, 100)", "mend(0, 0, 99)", "mend(3, 0, 1)", "mend(1, 0, 80)");
        w.refuses(NONE, "fault(-1, 0)", "fault(4, 0)", "fault(0, -1)", "fault(0, 4)", "fault(3, 0)", "fines(-1)", "fines(8)", "mended(-1)", "mended(8)");
        w.refuses(NONE, "works(0, -1)", "works(0, 3)", "works(201, 3)").refuses(BAD, "works(-1, 0)", "works(201, 0)");
        w.refuses(NONE, "scot(0, -1)", "scot(0, 8)", "scot(-1, 8)").refuses(BAD, "scot(-1, 0)", "scot(100001, 0)");
        return w.refuses(NONE, "count(-1)", "count(11)");
    }

    /** As many of everything as there may be. */
    private static World full() {
        World w = new World("all is full").has(24, 6, 120, 12);
        for (int rod = 0; rod < 24; rod++) {
            w.with("rod(" + rod + ", " + rod % 3 + ", " + 4 * rod + ")");
        }
        for (int herd = 0; herd < 6; herd++) {
            w.with("herd(" + (29 - herd) + ")");
        }
        for (int sale = 0; sale < 120; sale++) {
            w.with("sell(" + sale / 4 + ", 0, " + (1 + sale % 7) + ", 3, " + sale + ")");
        }
        for (int court = 0; court < 12; court++) {
            w.with("feed(" + (0x68203900L + '0' + court % 10) + ", 4)", "court(" + court + ")");
        }
        for (int i = 0; i < 60; i++) {
            w.with("view(" + i % 20 + ")");
        }
        for (int i = 0; i < 20; i++) {
            w.with("feed(" + 0x6820353b66203635L + ", 8)");
        }
        w.with("pass(7)");
        w.refuses(FULL, "rod(0, 0, 0)", "rod(29, 2, 99)", "herd(0)", "sell(0, 1, 0, 1, 0)", "sell(0, 0, 1, 12, 0)", "court(0)", "court(9999)");
        w.refuses(FULL, "feed(0, 1)", "feed(0, 8)", "view(0)", "view(19)", "view(20)");
        w.refuses(BAD, "rod(0, 3, 0)", "sell(0, 1, 0, 13, 0)", "sell(0, 1, 1, 1, 0)", "court(-1)", "court(10000)", "feed(0, 0)", "feed(0, 9)");
        return w.refuses(NONE, "rod(30, 3, 0)", "herd(30)", "sell(30, 1, 1, 0, -1)", "view(24)", "view(-1)", "held(0, 0, 0, 121)", "custom(0, 13, 0)", "mender(0, 0, 12, 121)");
    }

    /** DAY 9999, with water on the land. */
    private static World lastDay() {
        World w = new World("the last day").has(2, 2, 1, 1);
        w.with("rod(0, 0, 30)", "rod(5, 1, 20)", "sluice(1, 2)", "herd(0)", "herd(5)", "sell(0, 0, 1, 12, 9999)").tape("h 50;f 3;v 99;r 0-1 front").with("court(9000)");
        for (int i = 0; i < 24; i++) {
            w.with("pass(400)");
        }
        w.with("view(0)", "tide(55, 1, 20)", "pass(397)", "tide(40, 0, 3)").tape("f 6");
        return w.refuses(FULL, "tide(0, 0, 0)", "tide(120, 3, 50)", "pass(1)", "pass(400)").refuses(BAD, "tide(121, 0, 0)", "tide(0, 0, 51)", "pass(0)", "pass(401)");
    }

    // ---- what later calls show

    private static List<String> reads(World w) {
        List<String> reads = new ArrayList<>();
        for (int what = 0; what <= 10; what++) {
            reads.add("count(" + what + ")");
        }
        for (int cell = 0; cell < 30; cell++) {
            for (int what = 0; what <= 4; what++) {
                reads.add("cell(" + cell + ", " + what + ")");
            }
            for (int owner = 0; owner < 8; owner++) {
                reads.add("held(" + cell + ", " + owner + ", 9999, " + w.sales + ")");
            }
        }
        for (int rod = 0; rod < w.rods; rod++) {
            for (int what = 0; what <= 7; what++) {
                reads.add("about(" + rod + ", " + what + ")");
                reads.add("fault(" + rod + ", " + what % 4 + ")");
            }
            reads.add("mender(" + rod + ", 9999, " + w.courts + ", " + w.sales + ")");
            reads.add("mender(" + rod + ", 0, " + w.courts + ", " + w.sales + ")");
        }
        for (int herd = 0; herd < w.herds; herd++) {
            reads.add("where(" + herd + ")");
            reads.add("way(" + herd + ", 1, 0)");
            reads.add("way(" + herd + ", 60, 1)");
        }
        for (int day : new int[] {0, 3, 9, 50, 9000, 9999}) {
            for (int what = 0; what <= 4; what++) {
                reads.add("custom(" + day + ", " + w.courts + ", " + what + ")");
            }
        }
        for (int n = 0; n < 8; n++) {
            reads.addAll(Arrays.asList("fines(" + n + ")", "mended(" + n + ")", "scot(1003, " + n + ")", "held(-1, " + n + ", 5, " + w.sales + ")"));
            reads.add("works(" + 28 * n + ", " + n % 3 + ")");
        }
        return reads;
    }

    /** Calls that change what is there: what a refused call left behind might show only in these. */
    private static List<String> changes() {
        List<String> calls = new ArrayList<>();
        for (int cell = 0; cell < 30; cell++) {
            calls.add("gate(" + cell + ", " + (cell + 1) + ", 1)");
            calls.add("gate(" + cell + ", " + (cell + 6) + ", 1)");
        }
        for (String call : "view(0) view(1) mend(0, 3, 5) court(1) count(9) sell(2, 0, 1, 12, 0) sell(0, 3, 1, 5, 9) rod(3, 0, 9) herd(9)".split(" (?=[a-z])")) {
            calls.add(call);
        }
        for (String call : "tide(66, 2, 7) count(6) count(7) count(8) where(0) where(1) year() drive(0, 13) level(2, 9) sluice(0, 3)".split(" (?=[a-z])")) {
            calls.add(call);
        }
        for (String call : "tide(90, 1, 0) about(0, 2) about(0, 5) about(1, 4) cell(0, 1) cell(0, 3) cell(29, 4) pass(3) fines(6) fines(0)".split(" (?=[a-z])")) {
            calls.add(call);
        }
        for (String call : "feed(104, 1) feed(8245, 2) court(2) custom(2, 1, 1) count(3) count(5) works(200, 1) scot(77, 1) held(2, 1, 0, 1)".split(" (?=[a-z])")) {
            calls.add(call);
        }
        return calls;
    }

    private static void changesNothing(World w) {
        List<List<String>> watches = new ArrayList<>();
        List<String> reads = reads(w);
        int room = MOST_CALLS - w.calls.size() - 1;
        for (int from = 0; from < reads.size(); from += room) {
            watches.add(reads.subList(from, Math.min(reads.size(), from + room)));
        }
        watches.add(changes());
        for (List<String> watch : watches) {
            List<Long> due = new ArrayList<>();
            Run alone = made(w);
            for (String call : watch) {
                due.add(alone.call(call));
            }
            for (int i = 0; i < w.refused.size(); i++) {
                shows(w, i, watch, due);
            }
        }
    }

    private static Run made(World w) {
        return new Run(w.name).go(w.calls.toArray(new String[0]));
    }

    private static void shows(World w, int refused, List<String> watch, List<Long> due) {
        Run r = made(w).due(w.refused.get(refused), w.refusals.get(refused));
        for (int i = 0; i < watch.size(); i++) {
            Run.equal(w.name + ", behind " + w.refused.get(refused), watch.get(i), r.call(watch.get(i)), due.get(i));
        }
    }
}
