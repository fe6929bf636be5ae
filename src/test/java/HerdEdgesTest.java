import java.util.ArrayList;
import java.util.List;

/** The boundary cases of section 3 of the document and of promises 9 to 13, one test for each sentence. */
public final class HerdEdgesTest {
    private static final int NONE = MarshCourt.NONE, BAD = MarshCourt.BAD, STATE = MarshCourt.STATE, FULL = MarshCourt.FULL;

    public static void main(String[] args) {
        herdNumbers();
        herdFull();
        gatesAtFirst();
        oneGateAlone();
        gateNumbers();
        driveRefusals();
        whereNumbers();
        fleesAt200();
        leastWater();
        ifLess();
        ofSeveral();
        openGatesAlone();
        drownsAt500();
        whereItIsThen();
        thatLives();
        wayLevels();
        wayLevelOrMore();
        fewestMoves();
        longestWay();
        leastCell();
        openWayFirst();
        fewestShutGates();
        fewestMovesOfThese();
        leastCellOfThese();
        leftRatherThanRight();
        rightRatherThanAbove();
        aboveRatherThanBelow();
        firstShutGate();
        allGatesShut();
        noCellHasIt();
        wayRefusals();
        Run.finish();
    }

    private static void herdNumbers() {
        Run r = Run.of("HERDS are numbered from 0 on, 6 at most: each in a CELL.");
        r.due("where(0)", NONE).due("drive(0, 1)", NONE).due("way(0, 0, 0)", NONE);
        for (int herd = 0; herd < 6; herd++) {
            r.due("where(" + herd + ")", NONE).due("herd(" + (29 - herd) + ")", herd).due("where(" + herd + ")", 29 - herd);
        }
        r.due("where(0)", 29).due("where(5)", 24).outside("where(#)", NONE, 0, 5);
        r.due("drive(0, 28)", 29).due("drive(5, 25)", 24).outside("drive(#, 25)", NONE, 0, 5);
        r.due("way(0, 0, 1)", 28).due("way(5, 0, 1)", 25).outside("way(#, 0, 0)", NONE, 0, 5);
    }

    private static void herdFull() {
        Run r = Run.of("A HERD more: its number. NONE; FULL.");
        for (int herd = 0; herd < 6; herd++) {
            r.due("count(4)", herd).due("herd(3)", herd);
        }
        r.due("herd(3)", FULL).due("herd(30)", NONE).due("herd(-1)", NONE).due("count(4)", 6);
        // Drowned ones keep their numbers.
        r.go("tide(0, 0, 50)", "tide(0, 0, 50)").due("count(4)", 0).due("herd(3)", FULL).due("where(5)", -5).due("where(6)", NONE);
    }

    /** All GATES as pairs of CELLS, the lower one first. */
    private static List<int[]> gates() {
        List<int[]> gates = new ArrayList<>();
        for (int cell = 0; cell < 30; cell++) {
            if (cell % 6 < 5) {
                gates.add(new int[] {cell, cell + 1});
            }
            if (cell < 24) {
                gates.add(new int[] {cell, cell + 6});
            }
        }
        return gates;
    }

    private static String gate(int a, int b, int open) {
        return "gate(" + a + ", " + b + ", " + open + ")";
    }

    private static Run shut(Run r, int... pairs) {
        for (int i = 0; i < pairs.length; i += 2) {
            r.go(gate(pairs[i], pairs[i + 1], 0));
        }
        return r;
    }

    private static void gatesAtFirst() {
        Run r = Run.of("GATES are between NEIGHBOURS, all open at first.");
        Run.equal("gates", "how many", gates().size(), 49);
        for (int[] g : gates()) {
            r.due(gate(g[0], g[1], 0), 1).due(gate(g[1], g[0], 0), 0).due(gate(g[0], g[1], 1), 0).due(gate(g[1], g[0], 1), 1);
        }
    }

    private static void oneGateAlone() {
        for (int[] one : gates()) {
            Run r = new Run("one gate alone is shut").go(gate(one[1], one[0], 0)).go("herd(" + one[0] + ")", "herd(" + one[1] + ")");
            r.due("drive(0, " + one[1] + ")", STATE).due("drive(1, " + one[0] + ")", STATE);
            for (int[] other : gates()) {
                r.due(gate(other[0], other[1], 1), other[0] == one[0] && other[1] == one[1] ? 0 : 1);
            }
            r.due("drive(0, " + one[1] + ")", one[0]).due("drive(1, " + one[0] + ")", one[1]);
        }
    }

    private static void gateNumbers() {
        Run r = Run.of("The GATE between two NEIGHBOURS is open (1), shut (0): what it was. NONE; BAD: they are none, open.");
        r.due("gate(0, 1, 1)", 1).due("gate(0, 1, 0)", 1).due("gate(0, 1, 0)", 0).outside("gate(0, 1, #)", BAD, 0, 1);
        r.due("gate(0, 1, 1)", 0).due("gate(0, 2, 1)", BAD).due("gate(0, 0, 1)", BAD).due("gate(5, 6, 1)", BAD).due("gate(29, 24, 0)", BAD);
        r.due("gate(0, 7, 0)", BAD).due("gate(0, 12, 0)", BAD).due("gate(0, 2, 2)", BAD).due("gate(30, 2, 2)", NONE);
        r.due("gate(0, -1, 2)", NONE).due("gate(29, 35, 2)", NONE).due("gate(-6, 0, 0)", NONE).due("gate(30, 29, 0)", NONE);
    }

    private static void driveRefusals() {
        Run r = Run.of("A HERD is driven through an open GATE: where it was. NONE; BAD: no NEIGHBOUR; STATE: the GATE is shut, or it drowned.");
        r.go("herd(0)").due("drive(0, 1)", 0).due("drive(0, 1)", BAD).due("drive(0, 3)", BAD).go("gate(1, 2, 0)").due("drive(0, 2)", STATE);
        r.due("where(0)", 1).due("drive(1, 30)", NONE).due("drive(0, 30)", NONE).due("drive(-1, 2)", NONE).go("gate(1, 2, 1)").due("drive(0, 2)", 1);
        r.go("tide(0, 0, 50)", "tide(0, 0, 50)").due("where(0)", -5).due("drive(0, 3)", STATE).due("drive(0, 8)", STATE);
        r.due("drive(0, 4)", BAD).due("drive(0, 2)", BAD).due("drive(0, 30)", NONE).due("where(0)", -5);
    }

    private static void whereNumbers() {
        Run r = Run.of("Where a HERD is; -5: it drowned. NONE.").go("herd(29)").due("where(0)", 29).outside("where(#)", NONE, 0, 0);
        r.go("tide(0, 0, 50)", "tide(0, 0, 50)").due("where(0)", -5);
    }

    /** CELL 14 as a pit between four walls, with a SLUICE to the SEA and a HERD in it. */
    private static Run pit(Run r) {
        return r.go("level(13, 60)", "level(15, 60)", "level(8, 60)", "level(20, 60)", "rod(14, 1, 99)", "sluice(0, 2)", "herd(14)");
    }

    private static void fleesAt200() {
        // 75 by the first TIDE, 200 by the second; or 199 with some rain.
        Run r = pit(Run.of("where WATER is 200 or more it goes to the NEIGHBOUR with an open GATE and the least WATER"));
        r.go("tide(4, 0, 0)", "tide(8, 0, 0)").due("cell(14, 3)", 200).due("where(0)", 13);
        Run s = pit(new Run("199")).go("tide(3, 0, 2)", "tide(8, 0, 0)").due("cell(14, 3)", 199).due("where(0)", 14);
    }

    private static void leastWater() {
        // 204 all over; CELL 15 is put 3 higher then, so that its WATER runs off to the CELLS around.
        Run r = new Run("the least WATER").go("tide(0, 0, 34)", "level(15, 3)", "herd(14)", "tide(0, 0, 0)");
        r.due("where(0)", 15).due("cell(15, 1)", 0);
        Run s = new Run("the least WATER below").go("tide(0, 0, 34)", "level(20, 3)", "herd(14)", "tide(0, 0, 0)").due("where(0)", 20);
    }

    private static void ifLess() {
        // As deep all over: nobody goes.
        Run r = Run.of("if that is less than where it is").go("herd(14)", "tide(0, 0, 50)", "tide(0, 0, 30)").due("cell(14, 1)", 480).due("where(0)", 14);
        // 204 all over and 10 more come to CELL 1: 206, 209, 206 and below 205, where it goes; then 206 there and left of it 204.
        // There it stays, for none is less than 204.
        Run s = new Run("1 less").go("tide(0, 0, 34)", "rod(1, 1, 39)", "herd(1)", "tide(40, 0, 0)");
        s.due("cell(7, 1)", 206).due("cell(6, 1)", 204).due("where(0)", 6).go("tide(0, 0, 0)").due("where(0)", 6);
    }

    private static void ofSeveral() {
        Run r = pit(Run.of("(of several left, right, above, below)")).go("tide(40, 0, 0)").due("where(0)", 13);
        shut(pit(new Run("right")), 13, 14).go("tide(40, 0, 0)").due("where(0)", 15);
        shut(pit(new Run("above")), 13, 14, 14, 15).go("tide(40, 0, 0)").due("where(0)", 8);
        shut(pit(new Run("below")), 13, 14, 14, 15, 14, 8).go("tide(40, 0, 0)").due("where(0)", 20);
        shut(pit(new Run("left, not above")), 14, 15, 14, 20).go("tide(40, 0, 0)").due("where(0)", 13);
        shut(pit(new Run("right, not below")), 13, 14, 14, 8).go("tide(40, 0, 0)").due("where(0)", 15);
    }

    private static void openGatesAlone() {
        Run r = shut(pit(new Run("with an open GATE")), 13, 14, 14, 15, 14, 8, 14, 20).go("tide(16, 0, 0)").due("where(0)", 14);
        Run.holds("with an open GATE", "it stood in 200 or more", r.call("cell(14, 3)") >= 200);
        r.go("gate(20, 14, 1)", "tide(16, 0, 0)").due("where(0)", 20);
    }

    private static void drownsAt500() {
        Run r = shut(pit(Run.of("WATER is 500 or more where it is then: it DROWNS.")), 13, 14, 14, 15, 14, 8, 14, 20);
        r.go("tide(1, 0, 0)", "tide(30, 0, 0)").due("cell(14, 3)", 500).due("where(0)", -5).due("count(4)", 0);
        Run s = shut(pit(new Run("499")), 13, 14, 14, 15, 14, 8, 14, 20);
        s.go("tide(6, 0, 2)", "tide(25, 0, 0)").due("cell(14, 3)", 499).due("where(0)", 14).due("count(4)", 1);
    }

    private static void whereItIsThen() {
        // 570 come at once to CELL 14 and 30 more, and it has gone to the wall by then: it lives.
        Run r = pit(new Run("where it is then")).go("rod(14, 1, 60)", "rod(14, 1, 60)", "rod(14, 1, 60)", "sluice(0, 0)", "tide(79, 0, 0)");
        r.due("cell(14, 3)", 600).due("where(0)", 13).due("count(4)", 1);
        // 498 all over and 10 more to CELL 1 (10 times 1 in one HOUR): 503 there, 500 on each side and 499 below.
        Run s = new Run("499 where it is then").go("tide(0, 0, 50)", "tide(0, 0, 33)", "rod(1, 1, 39)", "herd(1)", "tide(40, 0, 0)");
        s.due("cell(1, 3)", 503).due("where(0)", 6).due("count(4)", 1);
        // Rain of 1 more in that HOUR alone makes all deeper: 504 all over, and nobody has anywhere to go.
        Run t = new Run("504 all over").go("tide(0, 0, 50)", "tide(0, 0, 33)", "herd(1)", "tide(0, 0, 1)").due("where(0)", -5);
        // 498 all over and 20 more to CELL 1: 507 there, 502 to the left, 501 to the right and below. It goes right and drowns.
        Run u = new Run("501 where it is then").go("tide(0, 0, 50)", "tide(0, 0, 33)", "rod(1, 1, 38)", "herd(1)", "tide(40, 0, 0)");
        u.due("where(0)", -5).due("drive(0, 3)", STATE).due("drive(0, 1)", STATE).due("drive(0, 0)", BAD).due("drive(0, 7)", BAD);
    }

    private static void thatLives() {
        Run r = Run.of("In (5) each HERD, by numbers, that lives").go("herd(0)", "herd(29)", "tide(0, 0, 50)", "tide(0, 0, 33)");
        r.due("count(4)", 2).go("level(29, 60)", "tide(0, 0, 1)").due("where(0)", -5);
        // CELL 29 ran dry; its HERD lives. The drowned one is no more moved, nor does it come back.
        r.due("cell(29, 1)", 0).due("where(1)", 29).due("count(4)", 1).go("level(0, 60)", "tide(0, 0, 0)", "tide(0, 0, 0)");
        r.due("cell(0, 1)", 0).due("where(0)", -5).due("count(4)", 1).due("way(0, 0, 0)", STATE).due("way(1, 0, 0)", 0);
    }

    private static void wayLevels() {
        Run r = Run.of("THE WAY of a HERD to a LEVEL (0 .. 60): what 0 how many moves, 1 the CELL").go("herd(7)", "level(8, 60)");
        r.due("way(0, 0, 0)", 0).due("way(0, 0, 1)", 7).due("way(0, 60, 0)", 1).due("way(0, 60, 1)", 8).outside("way(0, #, 0)", BAD, 0, 60);
        r.outside("way(0, #, 1)", BAD, 0, 60).outside("way(0, 0, #)", NONE, 0, 1);
    }

    private static void wayLevelOrMore() {
        Run r = Run.of("the fewest moves through open GATES to a CELL of LEVEL n or more").go("herd(0)", "level(1, 19)", "level(2, 20)", "level(3, 21)");
        r.due("way(0, 19, 1)", 1).due("way(0, 20, 1)", 2).due("way(0, 21, 1)", 3).due("way(0, 22, 1)", -50).due("way(0, 18, 0)", 1);
        r.go("level(0, 20)").due("way(0, 20, 0)", 0).due("way(0, 20, 1)", 0).due("way(0, 21, 0)", 3);
    }

    private static void fewestMoves() {
        Run r = new Run("the fewest moves").go("herd(0)", "level(29, 9)").due("way(0, 9, 0)", 9).due("way(0, 9, 1)", 29);
        r.go("level(24, 9)").due("way(0, 9, 0)", 4).due("way(0, 9, 1)", 24).go("gate(18, 24, 0)").due("way(0, 9, 0)", 6);
        r.go("gate(25, 24, 0)").due("way(0, 9, 0)", 9).due("way(0, 9, 1)", 29);
    }

    /** Each row is joined to the next at one end only: the way to the other end of the land goes through all CELLS. */
    private static Run snake(Run r) {
        for (int cell = 0; cell < 24; cell++) {
            boolean crossing = cell / 6 % 2 == 0 ? cell % 6 == 5 : cell % 6 == 0;
            if (!crossing) {
                r.go(gate(cell, cell + 6, 0));
            }
        }
        return r;
    }

    private static void longestWay() {
        Run r = snake(new Run("29 moves")).go("herd(0)", "level(29, 1)").due("way(0, 1, 0)", 29).due("way(0, 1, 1)", 29);
        // One shut GATE by any way then: from CELL 23, on the way, it is nearer than from CELL 28 at its end.
        r.go("gate(28, 29, 0)").due("way(0, 1, 0)", -123).due("way(0, 1, 1)", -129).go("gate(28, 29, 1)").due("way(0, 1, 0)", 29);
    }

    private static void leastCell() {
        Run r = Run.of("the least such CELL of those as near").go("herd(14)", "level(8, 5)", "level(13, 5)", "level(15, 5)", "level(20, 5)");
        r.due("way(0, 5, 0)", 1).due("way(0, 5, 1)", 8).go("level(8, 4)").due("way(0, 5, 1)", 13).go("level(13, 4)").due("way(0, 5, 1)", 15);
        r.go("level(15, 4)").due("way(0, 5, 1)", 20).go("level(0, 60)").due("way(0, 5, 1)", 20);
    }

    private static void openWayFirst() {
        // A CELL one move off behind a shut GATE, one nine moves off by open ones: the latter.
        Run r = Run.of("if there is none, THE GATE").go("herd(0)", "level(1, 9)", "level(29, 9)", "gate(0, 1, 0)", "gate(1, 2, 0)", "gate(1, 7, 0)");
        r.due("way(0, 9, 0)", 9).due("way(0, 9, 1)", 29).go("level(29, 8)").due("way(0, 9, 0)", -100).due("way(0, 9, 1)", -101);
    }

    private static void fewestShutGates() {
        // To CELL 2 by CELL 1 there are two shut GATES; round about by 6, 7, 8 there is one.
        Run r = Run.of("of all ways to such CELLS those with the fewest shut GATES").go("herd(0)", "level(2, 9)");
        shut(r, 0, 1, 1, 2, 0, 6, 2, 3).due("way(0, 9, 0)", -100).due("way(0, 9, 1)", -101).go("gate(1, 7, 0)");
        r.due("way(0, 9, 1)", -106).go("gate(8, 2, 0)");
        // Two by any way then: the shortest is by CELL 1.
        r.due("way(0, 9, 1)", -101);
        // A far CELL behind one shut GATE ahead of a near one behind two.
        Run s = shut(new Run("a far one behind one").go("herd(0)", "level(2, 9)", "level(29, 9)"), 0, 1, 0, 6, 2, 1, 2, 3, 2, 8);
        s.due("way(0, 9, 0)", -100).due("way(0, 9, 1)", -101).go("gate(1, 7, 0)", "gate(1, 2, 1)", "gate(2, 3, 0)", "gate(7, 8, 0)");
        s.due("way(0, 9, 1)", -101);
    }

    private static void fewestMovesOfThese() {
        // CELL 12 is walled in. By the right one it is 3 moves to CELL 15, by the one below 3 to CELL 19's right: 20.
        Run r = Run.of("of these those with the fewest moves").go("herd(12)", "level(15, 9)", "level(19, 9)");
        shut(r, 12, 6, 12, 13, 12, 18).due("way(0, 9, 0)", -112).due("way(0, 9, 1)", -113).go("gate(13, 19, 0)");
        // CELL 19 is two moves off by 18, CELL 15 three by 13.
        r.due("way(0, 9, 1)", -118).go("level(14, 9)").due("way(0, 9, 1)", -113).go("level(14, 0)", "level(19, 0)").due("way(0, 9, 1)", -113);
    }

    private static void leastCellOfThese() {
        Run r = Run.of("of these to the least CELL").go("herd(14)", "level(20, 9)", "level(8, 9)", "level(13, 9)", "level(15, 9)");
        shut(r, 14, 8, 14, 13, 14, 15, 14, 20).due("way(0, 9, 0)", -114).due("way(0, 9, 1)", -108);
        r.go("level(8, 0)").due("way(0, 9, 1)", -113).go("level(13, 0)").due("way(0, 9, 1)", -115).go("level(15, 0)").due("way(0, 9, 1)", -120);
        // The least CELL stands ahead of the side: above and right to CELL 9, left and below to CELL 19.
        r.go("level(20, 0)", "level(9, 9)", "level(19, 9)").due("way(0, 9, 1)", -115).go("level(9, 0)").due("way(0, 9, 1)", -113);
    }

    private static Run walledIn14(String name, int target) {
        return shut(new Run(name).go("herd(14)", "level(" + target + ", 9)"), 14, 8, 14, 13, 14, 15, 14, 20);
    }

    private static void leftRatherThanRight() {
        Run.of("of these the one that goes left rather than right, that rather than above, that rather than below, at the first move at which they differ");
        // CELL 20 is walled in, too: to 26 by 13, 19, 25 or by 15, 21, 27.
        Run r = shut(walledIn14("left rather than right", 26), 20, 19, 20, 21, 20, 26).due("way(0, 9, 0)", -114).due("way(0, 9, 1)", -113);
        r.go("gate(13, 19, 0)", "gate(12, 13, 0)").due("way(0, 9, 1)", -115);
        walledIn14("left rather than above", 7).due("way(0, 9, 1)", -113);
        walledIn14("left rather than below", 19).due("way(0, 9, 1)", -113);
    }

    private static void rightRatherThanAbove() {
        walledIn14("right rather than above", 9).due("way(0, 9, 1)", -115).go("gate(15, 9, 0)").due("way(0, 9, 1)", -108);
        walledIn14("right rather than below", 21).due("way(0, 9, 1)", -115).go("gate(15, 21, 0)").due("way(0, 9, 1)", -120);
    }

    private static void aboveRatherThanBelow() {
        // CELL 13 is walled in: from 12 to 14 by 6, 7, 8 or by 18, 19, 20.
        Run r = new Run("above rather than below").go("herd(12)", "level(14, 9)");
        shut(r, 12, 13, 13, 14, 13, 7, 13, 19, 12, 6, 12, 18).due("way(0, 9, 0)", -112).due("way(0, 9, 1)", -106);
        r.go("gate(6, 7, 0)", "gate(0, 1, 0)").due("way(0, 9, 0)", -112).due("way(0, 9, 1)", -118);
    }

    private static void firstShutGate() {
        // Open at first, then two shut GATES on the way: the first one of them is told.
        Run r = Run.of("the first shut GATE on it").go("herd(0)", "level(5, 9)");
        for (int cell = 0; cell < 6; cell++) {
            r.go(gate(cell, cell + 6, 0));
        }
        r.due("way(0, 9, 0)", 5).go("gate(2, 3, 0)").due("way(0, 9, 0)", -102).due("way(0, 9, 1)", -103);
        // CELLS 6 to 11 join: out by CELL 0, 1 or 2 and in by 3, 4 or 5 are two; straight on is one.
        r.go("gate(4, 5, 0)").due("way(0, 9, 0)", -102).due("way(0, 9, 1)", -103);
        // Three straight on, two round about: by the last CELL from which the GATE below is as good, right first.
        r.go("gate(3, 4, 0)").due("way(0, 9, 0)", -102).due("way(0, 9, 1)", -108);
        r.due("drive(0, 1)", 0).due("way(0, 9, 0)", -102).due("way(0, 9, 1)", -108);
        // From the other side the CELL ahead is the greater one.
        Run s = new Run("the CELL ahead").go("herd(5)", "level(0, 9)", "gate(0, 1, 0)", "gate(0, 6, 0)").due("way(0, 9, 0)", -101).due("way(0, 9, 1)", -100);
        Run t = new Run("from below").go("herd(29)", "level(0, 9)", "gate(0, 1, 0)", "gate(0, 6, 0)", "gate(1, 2, 0)", "gate(1, 7, 0)");
        t.due("way(0, 9, 0)", -106).due("way(0, 9, 1)", -100);
    }

    private static void allGatesShut() {
        Run r = new Run("all gates are shut").go("herd(0)", "herd(29)", "herd(5)", "herd(24)", "level(14, 9)");
        for (int[] g : gates()) {
            r.go(gate(g[0], g[1], 0));
        }
        r.due("way(0, 9, 0)", -100).due("way(0, 9, 1)", -101).due("way(1, 9, 0)", -129).due("way(1, 9, 1)", -128);
        r.due("way(2, 9, 0)", -105).due("way(2, 9, 1)", -104).due("way(3, 9, 0)", -124).due("way(3, 9, 1)", -125);
        r.due("way(0, 0, 0)", 0).due("way(0, 0, 1)", 0).due("way(0, 10, 0)", -50).go("level(14, 0)", "level(29, 60)");
        r.due("way(0, 60, 0)", -100).due("way(0, 60, 1)", -101).due("way(1, 60, 0)", 0).due("way(1, 60, 1)", 29);
    }

    private static void noCellHasIt() {
        Run r = Run.of("-50: no CELL has that LEVEL. NONE; BAD; STATE: it drowned.").go("herd(0)").due("way(0, 1, 0)", -50).due("way(0, 1, 1)", -50);
        r.go("level(29, 59)").due("way(0, 60, 0)", -50).due("way(0, 60, 1)", -50).due("way(0, 59, 0)", 9).go("gate(28, 29, 0)", "gate(23, 29, 0)");
        r.due("way(0, 60, 0)", -50).due("way(0, 59, 0)", -123).due("way(0, 59, 1)", -129).go("level(0, 60)").due("way(0, 60, 0)", 0);
    }

    private static void wayRefusals() {
        Run r = new Run("way, refusals").go("herd(0)", "tide(0, 0, 50)", "tide(0, 0, 50)").due("where(0)", -5);
        r.due("way(0, 0, 0)", STATE).due("way(0, 60, 1)", STATE).due("way(0, 61, 0)", BAD).due("way(0, -1, 1)", BAD);
        r.due("way(0, 61, 2)", NONE).due("way(0, 0, -1)", NONE).due("way(1, 61, 0)", NONE).due("way(-1, 0, 0)", NONE);
    }
}
