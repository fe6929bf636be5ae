/** Promises 14 to 16: tide, pass, year; with the HOURS of part 2. */
public final class TidesTest {
    private static final int BAD = MarshCourt.BAD, FULL = MarshCourt.FULL;

    public static void main(String[] args) {
        spreading();
        higherLand();
        sluices();
        salt();
        days();
        lastDay();
        cameAndWent();
        order();
        Run.finish();
    }

    /** HIGH 40 has the SEA at 40 in the third HOUR alone: 20 come over a bank of 38 to CELL 0. */
    private static void spreading() {
        Run r = new Run("part 2, from cell to cell");
        r.go("rod(0, 1, 38)").due("tide(40, 0, 0)", 0);
        int[] due = {7, 4, 2, 0, 0, 0, 4, 2, 0, 0, 0, 0, 1};
        for (int cell = 0; cell < due.length; cell++) {
            r.due("cell(" + cell + ", 1)", due[cell]);
        }
        r.due("cell(0, 3)", 12).due("cell(1, 3)", 4).due("cell(6, 3)", 4).due("count(8)", 20).due("count(6)", 20);
        // Nothing goes round from the end of a row to the next one: 100, 220 (it BREAKS), 180, 100, 20 come to CELL 5.
        Run s = new Run("part 2, the end of a row");
        s.go("level(4, 60)", "level(11, 60)", "rod(5, 1, 20)", "tide(40, 0, 0)");
        s.due("cell(5, 1)", 620).due("cell(6, 1)", 0).due("cell(5, 2)", 6);
    }

    private static void higherLand() {
        // CELL 0 lies 1 above the rest: a quarter of 100 and more, but no more than it has.
        Run r = new Run("part 2, as much as there is");
        r.go("level(0, 1)", "tide(0, 0, 4)").due("cell(0, 1)", 0).due("cell(0, 3)", 0).due("count(8)", 720);
        // CELL 29 lies above 23, to which its rain goes; that of 17, 22, 28 has gone to lower numbers by then.
        Run s = new Run("part 2, from the other one");
        s.go("level(29, 1)", "level(17, 60)", "level(22, 60)", "level(28, 60)", "tide(0, 0, 1)");
        s.due("cell(29, 1)", 0).due("cell(23, 3)", 12).due("cell(23, 1)", 12);
    }

    private static void sluices() {
        // A pit at 0: the SEA at 4, 6, 8, 6, 4, 2; open lets in 20, 30, 40, 30 and with a SURFACE of 1 then 15, 5.
        String[] pit = {"level(1, 60)", "level(6, 60)", "rod(0, 1, 99)"};
        int[] due = {0, 0, 140, 0};
        for (int how = 0; how <= 3; how++) {
            Run r = new Run("part 2, sluice " + how + " and the sea").go(pit).go("sluice(0, " + how + ")", "tide(8, 0, 0)");
            r.due("cell(0, 1)", due[how]).due("count(6)", due[how]).due("count(7)", 0);
        }
        // Rain brings 150 an HOUR; at a SEA of 0 open and by the tide let out 5 times SURFACE.
        int[] left = {900, 900, 790, 790};
        for (int how = 0; how <= 3; how++) {
            Run r = new Run("part 2, sluice " + how + " and the rain").go(pit).go("sluice(0, " + how + ")", "tide(0, 0, 50)");
            r.due("cell(0, 1)", left[how]).due("count(7)", 900 - left[how]);
        }
        // Land of 60 has a SURFACE of 60: 300 could go out, but what is there goes.
        Run s = new Run("part 2, no more than there is");
        s.go("level(0, 60)", "rod(0, 1, 99)", "sluice(0, 2)", "tide(0, 0, 7)").due("count(7)", 42).due("cell(0, 1)", 0);
        // A SURFACE 1 above the SEA: 5 go out; as high as the SEA: nothing moves.
        Run u = new Run("part 2, 1 above").go(pit).go("level(0, 3)", "sluice(0, 2)", "tide(4, 0, 50)").due("cell(0, 1)", 900 - 5 - 5 - 10 - 20 - 35 - 45);
        // Two SLUICES of one CELL, by RODS: the second sees what the first left.
        Run t = new Run("part 2, two sluices").go(pit).go("rod(0, 1, 99)", "sluice(0, 2)", "sluice(1, 2)", "tide(4, 0, 0)");
        t.due("cell(0, 1)", 20 + 30 + 40 + (15 + 10) + (5 + 5) + 0);
    }

    private static void salt() {
        // No SEA, no SALT, however deep.
        Run r = new Run("part 2, salt").go("tide(0, 0, 50)").due("cell(9, 4)", 0).due("cell(9, 3)", 300);
        // 10 of the SEA and 300 all over: a year for each. STONE 39 and the SEA at 40 once.
        r.go("rod(0, 1, 39)", "tide(40, 0, 0)").due("cell(9, 4)", 1).due("cell(0, 4)", 1).due("year()", 0).due("cell(9, 4)", 0);
        r.due("year()", 0).due("cell(9, 4)", 0).due("count(0)", 2);
        // 9 at most; and less than there is changes nothing.
        Run s = new Run("part 2, nine years").go("rod(0, 1, 99)", "sluice(0, 2)");
        for (int i = 0; i < 7; i++) {
            s.go("sluice(0, 0)", "tide(0, 0, 50)");
        }
        s.due("cell(29, 1)", 2100).due("cell(29, 4)", 0).go("sluice(0, 2)", "tide(100, 0, 0)").due("cell(29, 4)", 9);
        s.due("year()", 30).due("cell(29, 4)", 8).go("tide(0, 0, 0)").due("cell(29, 4)", 8);
        for (int i = 7; i >= 1; i--) {
            s.due("year()", 30).due("cell(0, 4)", i);
        }
        s.due("year()", 0).due("cell(0, 4)", 0);
        // 600 are three years, 594 two.
        Run u = new Run("part 2, 600").go("tide(0, 0, 50)", "tide(0, 0, 50)", "rod(0, 1, 39)", "tide(40, 0, 0)");
        u.due("cell(29, 3)", 600).due("cell(29, 4)", 3);
        Run v = new Run("part 2, 594").go("tide(0, 0, 50)", "tide(0, 0, 49)", "rod(0, 1, 39)", "tide(40, 0, 0)");
        v.due("cell(29, 3)", 594).due("cell(29, 4)", 2);
        Run t = new Run("part 2, more than it has").go("rod(0, 1, 39)", "tide(0, 0, 50)", "tide(0, 0, 16)");
        // 396 of water and 10 of the SEA: CELL 0 has 400 by its PEAK, the rest 1 year.
        t.go("tide(40, 0, 0)").due("cell(0, 3)", 402).due("cell(0, 4)", 2).due("cell(20, 4)", 1).due("year()", 1);
        t.go("tide(40, 0, 0)").due("cell(0, 4)", 2).due("cell(20, 4)", 1);
    }

    private static void days() {
        Run r = new Run("promises 14, 15");
        r.each("tide(#, 0, 0)", BAD, -1, 121, Integer.MIN_VALUE, Integer.MAX_VALUE);
        r.each("tide(0, #, 0)", BAD, -1, 4, Integer.MIN_VALUE, Integer.MAX_VALUE);
        r.each("tide(0, 0, #)", BAD, -1, 51, Integer.MIN_VALUE, Integer.MAX_VALUE);
        r.each("pass(#)", BAD, -1, 0, 401, Integer.MIN_VALUE, Integer.MAX_VALUE);
        r.due("count(0)", 0).due("count(10)", 0).due("tide(120, 3, 50)", 0).due("count(0)", 1).due("count(10)", 1);
        r.due("pass(1)", 2).due("pass(400)", 402).due("count(0)", 402).due("count(10)", 1).due("year()", 0).due("count(0)", 402);
        for (int day = 802; day <= 9602; day += 400) {
            r.due("pass(400)", day);
        }
        r.due("pass(398)", MarshCourt.FULL).due("pass(395)", 9997).due("pass(3)", FULL).due("pass(1)", 9998).due("pass(2)", FULL).due("count(0)", 9998);
        r.due("tide(0, 0, 0)", 0).due("count(0)", 9999).due("tide(0, 0, 0)", FULL).due("pass(1)", FULL);
        r.due("tide(121, 0, 0)", BAD).due("pass(0)", BAD).due("count(10)", 2);
        // A refused TIDE brings no water and leaves PEAK.
        r.due("tide(0, 0, 50)", FULL).due("cell(0, 1)", 300).due("cell(0, 3)", 300).due("count(6)", 9000);
    }

    private static void lastDay() {
        Run r = new Run("promise 15, the last day");
        for (int day = 400; day <= 9600; day += 400) {
            r.due("pass(400)", day);
        }
        r.due("pass(400)", FULL).due("pass(399)", 9999).due("pass(1)", FULL).due("tide(0, 0, 0)", FULL);
    }

    private static void cameAndWent() {
        Run r = new Run("promise 28, came and went");
        for (int i = 0; i < 24; i++) {
            r.go("rod(" + i + ", 1, 0)");
        }
        // 24 banks of 0: 10 times 60, 90, 120, 90, 60, 30 each.
        r.due("tide(120, 0, 0)", 24).due("count(6)", 108000).due("count(8)", 108000);
        for (int i = 0; i < 9; i++) {
            r.due("tide(120, 0, 0)", 24);
        }
        r.due("count(6)", 80000).due("count(8)", 1080000).due("count(7)", 0);
        for (int i = 0; i < 24; i++) {
            r.go("sluice(" + i + ", 3)");
        }
        for (int i = 0; i < 300; i++) {
            r.due("tide(0, 0, 0)", 0);
        }
        long water = r.call("count(8)");
        Run.holds("promise 28", "more than a million went out: " + water, water < 80000);
        r.due("count(7)", 80000 - water);
    }

    /** What comes first within an HOUR: rain, RODS, SLUICES, from cell to cell, HERDS. */
    private static void order() {
        // Rain of 50 is there when the SLUICE runs: out of land of 60 all of it goes, and none is left to spread.
        Run r = new Run("part 2, rain ahead of sluices").go("level(0, 60)", "rod(0, 1, 99)", "sluice(0, 3)", "tide(0, 0, 50)");
        r.due("count(7)", 300).due("cell(0, 3)", 0);
        // What comes over the bank raises SURFACE for the SLUICE: the SEA at 1 over a bank of 0, 10 an hour.
        Run s = new Run("part 2, rods ahead of sluices").go("level(1, 60)", "level(6, 60)", "rod(0, 1, 0)", "sluice(0, 2)");
        // HIGH 20: 10, 15, 20 (breaks at 0), 15, 10, 5, SURFACE 1 after 100 have come: 5 times 9 come in.
        s.due("tide(20, 0, 0)", 1).due("cell(0, 1)", 100 + 45 + 150 + 65 + 200 + 75 + 150 + 40 + 100 + 5 + 50 - 20);
        // A bank lets in by the HEIGHT that it had ahead of the wear: 40 at HIGH 40 keeps all out, and is 39 then.
        Run t = new Run("part 2, over ahead of wear").go("rod(0, 0, 40)", "tide(40, 0, 0)").due("count(6)", 0).due("about(0, 2)", 39);
        // HERDS and PEAK see the water when it has spread: 300 come at once, but 75 and then 56 of it go on.
        Run u = new Run("part 2, herds last").go("rod(0, 1, 85)", "rod(0, 1, 85)", "herd(0)", "tide(100, 0, 0)");
        u.due("count(6)", 300).due("cell(0, 3)", 169).due("where(0)", 0);
    }
}
