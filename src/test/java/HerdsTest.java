/** Promises 9 to 13: gate, herd, drive, where, way; with part 3. */
public final class HerdsTest {
    private static final int NONE = MarshCourt.NONE, BAD = MarshCourt.BAD, STATE = MarshCourt.STATE, FULL = MarshCourt.FULL;

    public static void main(String[] args) {
        gates();
        herds();
        driving();
        fleeing();
        drowning();
        openWays();
        gatesOnWays();
        refusedWays();
        Run.finish();
    }

    private static void gates() {
        Run r = new Run("promise 9");
        r.due("gate(0, 1, 1)", 1).due("gate(0, 1, 0)", 1).due("gate(1, 0, 0)", 0).due("gate(1, 0, 1)", 0).due("gate(0, 1, 0)", 1);
        r.due("gate(23, 29, 0)", 1).due("gate(29, 23, 1)", 0).due("gate(29, 28, 0)", 1).due("gate(28, 29, 1)", 0);
        // The end of a row and the start of the next are none, nor is a cell its own.
        r.due("gate(5, 6, 0)", BAD).due("gate(6, 5, 0)", BAD).due("gate(0, 7, 0)", BAD).due("gate(4, 4, 0)", BAD).due("gate(0, 12, 1)", BAD);
        r.each("gate(0, 1, #)", BAD, -1, 2, Integer.MIN_VALUE, Integer.MAX_VALUE);
        r.each("gate(#, 1, 0)", NONE, -1, 30, Integer.MIN_VALUE, Integer.MAX_VALUE);
        r.each("gate(29, #, 2)", NONE, -1, 30, 35, Integer.MIN_VALUE, Integer.MAX_VALUE);
        r.due("gate(0, 1, 0)", 0).due("gate(0, 6, 0)", 1);
    }

    private static void herds() {
        Run r = new Run("promises 10, 12");
        r.due("where(0)", NONE).each("herd(#)", NONE, -1, 30, Integer.MIN_VALUE, Integer.MAX_VALUE);
        for (int i = 0; i < 6; i++) {
            r.due("herd(" + (29 - i) + ")", i);
        }
        r.due("herd(0)", FULL).due("herd(30)", NONE).due("count(4)", 6).due("where(0)", 29).due("where(5)", 24);
        r.each("where(#)", NONE, -1, 6, Integer.MIN_VALUE, Integer.MAX_VALUE);
    }

    private static void driving() {
        Run r = new Run("promise 11");
        r.go("herd(7)", "gate(8, 7, 0)");
        r.due("drive(0, 8)", STATE).due("where(0)", 7).due("drive(0, 6)", 7).due("drive(0, 0)", 6).due("drive(0, 1)", 0);
        r.due("drive(0, 7)", 1).due("where(0)", 7).due("drive(0, 7)", BAD).due("drive(0, 9)", BAD).due("drive(0, 14)", BAD);
        r.each("drive(0, #)", NONE, -1, 30, Integer.MIN_VALUE, Integer.MAX_VALUE);
        r.each("drive(#, 6)", NONE, -1, 1, Integer.MIN_VALUE, Integer.MAX_VALUE);
        Run s = new Run("promise 11, drowned");
        s.go("herd(0)", "level(1, 60)", "level(6, 60)", "rod(0, 1, 0)", "gate(0, 1, 0)", "gate(0, 6, 0)", "tide(120, 0, 0)");
        s.due("where(0)", -5).go("gate(0, 1, 1)").due("drive(0, 1)", STATE).due("drive(0, 6)", STATE);
        s.due("drive(0, 7)", BAD).due("drive(0, 30)", NONE).due("where(0)", -5).due("herd(4)", 1).due("count(4)", 1);
    }

    /** CELL 14 alone lies low between high ones, so that its WATER stays: the SEA comes over one ROD. */
    private static Run pit(String name) {
        Run r = new Run(name);
        return r.go("level(13, 60)", "level(15, 60)", "level(8, 60)", "level(20, 60)", "rod(14, 1, 99)", "herd(14)");
    }

    private static void fleeing() {
        // Through the SLUICE 75 by the first TIDE; the second one makes it 95, 125, 160, 185, 200 and no more.
        Run r = pit("part 3, flees at 200");
        r.go("sluice(0, 2)", "tide(4, 0, 0)", "tide(8, 0, 0)").due("cell(14, 3)", 200).due("where(0)", 13);
        Run q = pit("part 3, stays below 200");
        q.go("sluice(0, 2)", "tide(3, 0, 2)", "tide(8, 0, 0)").due("cell(14, 3)", 199).due("where(0)", 14);
        Run s = pit("part 3, flees left");
        s.go("sluice(0, 2)", "tide(40, 0, 0)").due("where(0)", 13);
        Run t = pit("part 3, flees right").go("gate(13, 14, 0)", "sluice(0, 2)", "tide(40, 0, 0)");
        t.due("where(0)", 15);
        Run u = pit("part 3, flees above").go("gate(13, 14, 0)", "gate(15, 14, 0)", "sluice(0, 2)", "tide(40, 0, 0)");
        u.due("where(0)", 8);
        Run v = pit("part 3, flees below").go("gate(13, 14, 0)", "gate(15, 14, 0)", "gate(14, 8, 0)", "sluice(0, 2)", "tide(40, 0, 0)");
        v.due("where(0)", 20);
        Run w = pit("part 3, can't flee").go("gate(13, 14, 0)", "gate(15, 14, 0)", "gate(14, 8, 0)", "gate(14, 20, 0)",
                "sluice(0, 2)", "tide(16, 0, 0)");
        w.due("where(0)", 14).due("count(4)", 1);
        // All as deep: nobody goes anywhere.
        Run x = new Run("part 3, all as deep").go("herd(14)", "tide(0, 0, 50)", "tide(0, 0, 1)");
        x.due("cell(14, 1)", 306).due("where(0)", 14);
    }

    private static void drowning() {
        String[] walls = {"gate(13, 14, 0)", "gate(15, 14, 0)", "gate(8, 14, 0)", "gate(20, 14, 0)", "sluice(0, 2)"};
        Run p = pit("part 3, 500").go(walls).go("tide(1, 0, 0)", "tide(30, 0, 0)").due("cell(14, 3)", 500).due("where(0)", -5);
        Run q = pit("part 3, 499").go(walls).go("tide(6, 0, 2)", "tide(25, 0, 0)").due("cell(14, 3)", 499).due("where(0)", 14);
        // It flees to the least WATER and drowns there, if that is 500 or more.
        Run o = new Run("part 3, drowns where it went").go("tide(0, 0, 50)", "tide(0, 0, 50)", "herd(0)", "rod(0, 1, 0)", "tide(8, 0, 0)");
        o.due("where(0)", -5).due("count(4)", 0).due("drive(0, 7)", STATE).due("drive(0, 6)", BAD);
        // Rain alone, as deep all over.
        Run r = new Run("part 3, drowns at 500").go("herd(0)", "herd(29)", "tide(0, 0, 50)", "tide(0, 0, 33)");
        r.due("cell(0, 1)", 498).due("where(0)", 0).due("count(4)", 2);
        r.go("tide(0, 0, 1)").due("where(0)", -5).due("where(1)", -5).due("count(4)", 0);
        // A drowned one stays so when the water has gone.
        Run s = new Run("part 3, stays drowned").go("level(1, 60)", "level(6, 60)", "herd(0)", "gate(0, 1, 0)",
                "gate(0, 6, 0)", "rod(0, 1, 0)", "tide(60, 0, 0)", "sluice(0, 3)");
        for (int i = 0; i < 40; i++) {
            s.go("tide(0, 0, 0)");
        }
        s.due("where(0)", -5).due("count(4)", 0);
    }

    private static void openWays() {
        Run r = new Run("promise 13");
        r.go("herd(14)").due("way(0, 0, 0)", 0).due("way(0, 0, 1)", 14).due("way(0, 1, 0)", -50).due("way(0, 60, 1)", -50);
        r.go("level(12, 20)", "level(17, 30)", "level(2, 20)", "level(26, 20)");
        // 2, 12, 26 are two moves off, 17 three.
        r.due("way(0, 20, 0)", 2).due("way(0, 20, 1)", 2).due("way(0, 21, 0)", 3).due("way(0, 21, 1)", 17);
        r.due("way(0, 31, 0)", -50).go("gate(2, 8, 0)").due("way(0, 20, 1)", 12).go("gate(8, 14, 0)");
        r.go("gate(12, 13, 0)").due("way(0, 20, 0)", 2).due("way(0, 20, 1)", 26);
        // Round about rather than through a shut gate.
        r.go("gate(16, 17, 0)", "gate(11, 17, 0)").due("way(0, 30, 0)", 5).due("way(0, 30, 1)", 17);
        r.go("level(14, 60)").due("way(0, 60, 0)", 0).due("way(0, 60, 1)", 14);
        Run s = new Run("promise 13, to the corners").go("herd(6)", "level(0, 9)").due("way(0, 9, 0)", 1).due("way(0, 9, 1)", 0);
        s.go("level(29, 10)").due("way(0, 10, 0)", 8).due("way(0, 10, 1)", 29).go("level(5, 10)").due("way(0, 10, 0)", 6);
    }

    private static void gatesOnWays() {
        Run r = new Run("promise 13, the gate");
        // CELL 0 is walled in; 14 is the aim: left, right, above, below in this order decide.
        r.go("herd(0)", "level(14, 10)", "gate(0, 1, 0)", "gate(0, 6, 0)");
        r.due("way(0, 10, 0)", -100).due("way(0, 10, 1)", -101);
        // Two shut gates by the right side, one below.
        r.go("gate(1, 2, 0)", "gate(1, 7, 0)").due("way(0, 10, 0)", -100).due("way(0, 10, 1)", -106);
        // The first shut gate lies farther on.
        Run s = new Run("promise 13, a farther gate");
        s.go("herd(0)", "level(29, 60)", "gate(28, 29, 0)", "gate(23, 29, 0)");
        // Nine moves by either: right goes ahead of below, so it comes from above by 23.
        s.due("way(0, 60, 0)", -123).due("way(0, 60, 1)", -129);
        s.go("gate(5, 11, 0)", "gate(11, 17, 0)", "gate(17, 23, 0)").due("way(0, 60, 0)", -123);
        s.go("gate(22, 23, 0)").due("way(0, 60, 0)", -128).due("way(0, 60, 1)", -129);
        // Fewer shut gates stand ahead of fewer moves, and those ahead of the least cell.
        Run t = new Run("promise 13, the least cell");
        t.go("herd(14)", "gate(14, 13, 0)", "gate(14, 15, 0)", "gate(14, 8, 0)", "gate(14, 20, 0)");
        t.go("level(20, 5)", "level(15, 5)", "level(8, 5)", "level(13, 5)", "level(26, 6)", "level(2, 6)");
        t.due("way(0, 5, 0)", -114).due("way(0, 5, 1)", -108).due("way(0, 6, 1)", -108);
        t.go("gate(8, 2, 0)").due("way(0, 6, 1)", -120).go("level(2, 7)").due("way(0, 7, 1)", -113);
        // The end of a row is no NEIGHBOUR of the next one's start: CELL 6 to 5 goes by 0, or by 7 if that GATE is open.
        Run v = new Run("promise 13, no way round").go("herd(6)", "level(5, 9)", "gate(0, 6, 0)", "gate(6, 7, 0)", "gate(6, 12, 0)");
        v.due("way(0, 9, 0)", -106).due("way(0, 9, 1)", -107).go("gate(7, 8, 0)", "gate(7, 1, 0)", "gate(7, 13, 0)").due("way(0, 9, 1)", -100);
        // Two walls to go through: right goes ahead of below, but no farther than the moves allow.
        Run u = new Run("promise 13, fewest gates");
        u.go("herd(0)", "gate(0, 6, 0)", "gate(1, 7, 0)", "gate(2, 8, 0)", "gate(3, 9, 0)", "gate(4, 10, 0)", "gate(5, 11, 0)");
        u.go("gate(6, 12, 0)", "gate(7, 13, 0)", "gate(8, 14, 0)", "gate(9, 15, 0)", "gate(10, 16, 0)", "gate(11, 17, 0)");
        u.go("level(24, 9)").due("way(0, 9, 0)", -100).due("way(0, 9, 1)", -106);
        // One open crossing at the far end saves a gate though it takes ten moves more: all along the upper row first.
        u.go("gate(11, 17, 1)").due("way(0, 9, 0)", -105).due("way(0, 9, 1)", -111);
        u.go("gate(5, 11, 1)").due("way(0, 9, 0)", 14).go("gate(16, 17, 0)", "gate(17, 23, 0)");
        // Back along the second row, left ahead of below.
        u.due("way(0, 9, 0)", -106).due("way(0, 9, 1)", -112);
        u.go("gate(6, 7, 0)").due("way(0, 9, 0)", -107).due("way(0, 9, 1)", -113);
    }

    private static void refusedWays() {
        Run r = new Run("promise 13, refusals");
        r.due("way(0, 0, 0)", NONE).go("herd(3)");
        r.each("way(#, 0, 0)", NONE, -1, 1, Integer.MIN_VALUE, Integer.MAX_VALUE);
        r.each("way(0, 0, #)", NONE, -1, 2, Integer.MIN_VALUE, Integer.MAX_VALUE);
        r.each("way(0, #, 0)", BAD, -1, 61, Integer.MIN_VALUE, Integer.MAX_VALUE);
        r.due("way(0, 61, 2)", NONE).go("tide(0, 0, 50)", "tide(0, 0, 50)").due("where(0)", -5);
        r.due("way(0, 0, 0)", STATE).due("way(0, 61, 0)", BAD).due("way(0, 0, 2)", NONE).due("way(0, 60, 1)", STATE);
    }
}
