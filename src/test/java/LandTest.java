/** Promises 2 to 5: level, cell, sell, held. */
public final class LandTest {
    private static final int NONE = MarshCourt.NONE, BAD = MarshCourt.BAD, STATE = MarshCourt.STATE, FULL = MarshCourt.FULL;

    public static void main(String[] args) {
        levels();
        cells();
        sales();
        pastSales();
        refusedSales();
        fullSales();
        holdings();
        Run.finish();
    }

    private static void levels() {
        Run r = new Run("promise 2");
        r.due("level(0, 60)", 0).due("level(0, 0)", 60).due("level(0, 7)", 0);
        r.due("level(29, 1)", 0).due("cell(29, 0)", 1).due("cell(0, 0)", 7).due("cell(28, 0)", 0);
        r.each("level(#, 5)", NONE, -1, 30, Integer.MIN_VALUE, Integer.MAX_VALUE);
        r.each("level(0, #)", BAD, -1, 61, Integer.MIN_VALUE, Integer.MAX_VALUE);
        r.due("level(30, 61)", NONE).due("cell(0, 0)", 7);
    }

    private static void cells() {
        Run r = new Run("promise 3");
        r.go("level(0, 10)");
        // Rain alone: 6 times 50, and from the high cell a quarter runs off to each side in each hour.
        r.go("tide(0, 0, 50)");
        r.due("cell(0, 0)", 10).due("cell(0, 1)", 0).due("cell(0, 2)", 10).due("cell(0, 3)", 0).due("cell(0, 4)", 0);
        r.due("cell(29, 1)", 300).due("cell(29, 2)", 3).due("cell(29, 3)", 300);
        r.each("cell(#, 0)", NONE, -1, 30, Integer.MIN_VALUE, Integer.MAX_VALUE);
        r.each("cell(0, #)", NONE, -1, 5, Integer.MIN_VALUE, Integer.MAX_VALUE);
        // 99 of water stand 0 high, 100 of it 1.
        Run s = new Run("promise 3, surface");
        s.go("tide(0, 0, 16)", "level(3, 5)").due("cell(3, 1)", 96).due("cell(3, 2)", 5);
        // The latest tide alone counts for PEAK. Each HOUR brings 150 to the pit; the SLUICE takes 10, 15, 20, 30, 35.
        Run t = new Run("promise 3, peak");
        t.go("rod(0, 0, 0)", "sluice(0, 3)", "level(1, 60)", "level(6, 60)", "tide(0, 0, 50)").due("cell(0, 3)", 790);
        t.go("tide(0, 0, 0)").due("cell(0, 3)", 755);
    }

    private static void sales() {
        Run r = new Run("promise 4");
        r.due("sell(0, 0, 1, 5, 10)", 1).due("sell(0, 1, 2, 5, 10)", 2).due("sell(0, 0, 7, 7, 10)", 3);
        r.due("sell(0, 0, 1, 1, 10)", STATE).due("sell(29, 0, 7, 12, 9999)", 4).due("sell(28, 0, 7, 12, 0)", 5);
        r.due("held(0, 0, 9, 5)", 12).due("held(0, 0, 10, 5)", 0).due("held(0, 1, 10, 5)", 0);
        r.due("held(0, 2, 10, 5)", 5).due("held(0, 7, 10, 5)", 7).due("count(2)", 5);
        // Other cells' parts do not count.
        r.due("sell(1, 2, 0, 1, 10)", STATE);
    }

    private static void pastSales() {
        Run r = new Run("promise 4, past days");
        r.due("sell(0, 0, 1, 8, 100)", 1);
        // On day 50 OWNER 0 has all, but by day 100 four only.
        r.due("sell(0, 0, 2, 5, 50)", STATE).due("sell(0, 0, 2, 4, 50)", 2).due("sell(0, 0, 2, 1, 50)", STATE);
        // What comes back in between helps: 1 gives 3 to 0 on 100, then 0 may sell 3 from 100 on, not from 99 on.
        r.due("sell(0, 1, 0, 3, 100)", 3).due("sell(0, 0, 3, 3, 99)", 4);
        r.due("sell(0, 0, 3, 1, 99)", STATE).due("sell(0, 0, 3, 1, 100)", STATE);
        // A hole that lies between two days.
        Run s = new Run("promise 4, a hole");
        s.due("sell(0, 0, 1, 12, 10)", 1).due("sell(0, 1, 0, 12, 20)", 2);
        s.due("sell(0, 0, 2, 1, 5)", STATE).due("sell(0, 0, 2, 1, 9)", STATE).due("sell(0, 0, 2, 1, 10)", STATE);
        s.due("sell(0, 0, 2, 1, 19)", STATE).due("sell(0, 0, 2, 1, 20)", 3);
        s.due("sell(0, 1, 2, 1, 10)", STATE).due("held(0, 1, 15, 3)", 12);
    }

    private static void refusedSales() {
        Run r = new Run("promise 4, refusals");
        r.each("sell(#, 0, 1, 1, 0)", NONE, -1, 30, Integer.MIN_VALUE, Integer.MAX_VALUE);
        r.each("sell(0, #, 1, 1, 0)", NONE, -1, 8, Integer.MIN_VALUE, Integer.MAX_VALUE);
        r.each("sell(0, 0, #, 1, 0)", NONE, -1, 8, Integer.MIN_VALUE, Integer.MAX_VALUE);
        r.each("sell(0, 0, 1, #, 0)", BAD, -1, 0, 13, Integer.MIN_VALUE, Integer.MAX_VALUE);
        r.each("sell(0, 0, 1, 1, #)", BAD, -1, 10000, Integer.MIN_VALUE, Integer.MAX_VALUE);
        r.due("sell(0, 3, 3, 1, 0)", BAD).due("sell(0, 0, 0, 1, 0)", BAD);
        r.due("sell(0, 8, 8, 0, -1)", NONE).due("sell(0, 1, 2, 13, 0)", BAD);
        r.due("count(2)", 0).due("held(0, 0, 0, 0)", 12);
    }

    private static void fullSales() {
        Run r = new Run("promise 4, full");
        for (int i = 0; i < 120; i++) {
            r.due("sell(" + i / 4 + ", 0, 1, 3, " + i + ")", i + 1);
        }
        // FULL stands ahead of STATE, but behind BAD and NONE.
        r.due("sell(0, 1, 0, 1, 200)", FULL).due("sell(0, 5, 0, 1, 200)", FULL);
        r.due("sell(0, 5, 0, 0, 200)", BAD).due("sell(30, 5, 0, 0, 200)", NONE);
        r.due("count(2)", 120).due("held(-1, 1, 9999, 120)", 360).due("held(-1, 0, 9999, 120)", 0);
        r.due("held(-1, 1, 60, 120)", 183).due("held(-1, 1, 9999, 7)", 21).due("held(-1, 0, 3, 119)", 348);
    }

    private static void holdings() {
        Run r = new Run("promise 5");
        r.go("sell(4, 0, 3, 12, 50)", "sell(4, 3, 5, 2, 60)", "sell(5, 0, 3, 1, 20)");
        r.due("held(4, 3, 49, 3)", 0).due("held(4, 3, 50, 3)", 12).due("held(4, 3, 60, 3)", 10).due("held(4, 3, 60, 1)", 12);
        r.due("held(4, 3, 60, 0)", 0).due("held(4, 0, 60, 0)", 12).due("held(4, 0, 60, 1)", 0).due("held(4, 5, 9999, 3)", 2);
        r.due("held(-1, 3, 60, 3)", 11).due("held(-1, 3, 60, 2)", 10).due("held(-1, 0, 19, 3)", 360).due("held(-1, 0, 20, 3)", 359);
        r.each("held(#, 0, 0, 0)", NONE, -2, 30, Integer.MIN_VALUE, Integer.MAX_VALUE);
        r.each("held(0, #, 0, 0)", NONE, -1, 8, Integer.MIN_VALUE, Integer.MAX_VALUE);
        r.each("held(0, 0, 0, #)", NONE, -1, 4, Integer.MIN_VALUE, Integer.MAX_VALUE);
        r.each("held(0, 0, #, 3)", BAD, -1, 10000, Integer.MIN_VALUE, Integer.MAX_VALUE);
        r.due("held(0, 0, -1, 4)", NONE).due("held(-1, 0, -1, 3)", BAD).due("held(29, 0, 9999, 3)", 12);
    }
}
