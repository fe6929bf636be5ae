/** Promises 6 to 8: rod, sluice, about; with the WEAR and BREAKING of part 2. */
public final class BankTest {
    private static final int NONE = MarshCourt.NONE, BAD = MarshCourt.BAD, FULL = MarshCourt.FULL;

    public static void main(String[] args) {
        rods();
        sluices();
        abouts();
        wear();
        windAndKinds();
        breaking();
        due();
        Run.finish();
    }

    private static void rods() {
        Run r = new Run("promise 6");
        r.due("rod(29, 2, 99)", 0).due("rod(0, 0, 0)", 1).due("rod(0, 1, 5)", 2).due("count(1)", 3);
        r.due("about(0, 0)", 29).due("about(0, 1)", 2).due("about(0, 2)", 99).due("about(2, 1)", 1).due("about(1, 2)", 0);
        r.each("rod(#, 0, 0)", NONE, -1, 30, Integer.MIN_VALUE, Integer.MAX_VALUE);
        r.each("rod(0, #, 0)", BAD, -1, 3, Integer.MIN_VALUE, Integer.MAX_VALUE);
        r.each("rod(0, 0, #)", BAD, -1, 100, Integer.MIN_VALUE, Integer.MAX_VALUE);
        r.due("rod(30, 3, 100)", NONE).due("count(1)", 3);
        for (int i = 3; i < 24; i++) {
            r.due("rod(1, 1, 1)", i);
        }
        r.due("rod(1, 1, 1)", FULL).due("rod(1, 3, 1)", BAD).due("rod(-1, 3, 1)", NONE).due("count(1)", 24);
        r.due("about(23, 0)", 1).due("about(24, 0)", NONE);
    }

    private static void sluices() {
        Run r = new Run("promise 7");
        r.go("rod(0, 0, 10)", "rod(1, 0, 10)");
        r.due("sluice(0, 1)", 0).due("sluice(0, 2)", 1).due("sluice(0, 3)", 2).due("sluice(0, 0)", 3).due("sluice(0, 3)", 0);
        r.due("about(0, 3)", 3).due("about(1, 3)", 0);
        r.each("sluice(#, 1)", NONE, -1, 2, Integer.MIN_VALUE, Integer.MAX_VALUE);
        r.each("sluice(0, #)", BAD, -1, 4, Integer.MIN_VALUE, Integer.MAX_VALUE);
        r.due("sluice(2, 4)", NONE).due("about(0, 3)", 3);
    }

    private static void abouts() {
        Run r = new Run("promise 8");
        r.due("about(0, 0)", NONE).go("rod(7, 1, 33)");
        int[] due = {7, 1, 33, 0, 0, 0, NONE, 0};
        for (int what = 0; what < due.length; what++) {
            r.due("about(0, " + what + ")", due[what]);
        }
        r.each("about(0, #)", NONE, -1, 8, Integer.MIN_VALUE, Integer.MAX_VALUE);
        r.each("about(#, 0)", NONE, -1, 1, Integer.MIN_VALUE, Integer.MAX_VALUE);
        r.go("pass(9)").due("view(0)", 0).due("about(0, 6)", 9).go("pass(1)", "view(0)").due("about(0, 6)", 10);
    }

    /** HIGH 40 has the SEA at 20, 30, 40, 30, 20, 10: one HOUR alone has it at 40. */
    private static void wear() {
        Run r = new Run("part 2, wear");
        // Above HEIGHT less 5: 45 less 5 is 40, and 40 is not above it.
        r.go("rod(0, 0, 45)", "rod(1, 0, 44)", "rod(2, 1, 44)", "rod(3, 2, 44)", "tide(40, 0, 0)");
        r.due("about(0, 2)", 45).due("about(0, 5)", 0).due("about(1, 2)", 43).due("about(1, 5)", 1);
        r.due("about(2, 2)", 44).due("about(3, 2)", 44).due("count(6)", 0);
        // At HEIGHT itself nothing comes over, 1 above it 10 does.
        Run s = new Run("part 2, over the bank");
        s.go("rod(0, 1, 40)", "tide(40, 0, 0)").due("count(6)", 0).due("cell(0, 4)", 0);
        s.go("rod(0, 1, 39)", "tide(40, 0, 0)").due("count(6)", 10);
        // STONE: 2 when SEA is 10 or more above it, none when it is 9.
        Run t = new Run("part 2, 10 above");
        t.go("rod(0, 1, 31)", "rod(1, 1, 30)", "tide(40, 3, 0)").due("about(0, 2)", 31).due("about(0, 5)", 0);
        t.due("about(1, 2)", 28).due("about(1, 5)", 2);
    }

    private static void windAndKinds() {
        int[][] taken = {{1, 0, 0}, {2, 0, 1}, {3, 0, 1}, {4, 0, 2}};
        for (int wind = 0; wind <= 3; wind++) {
            Run r = new Run("part 2, wind " + wind);
            r.go("rod(0, 0, 44)", "rod(1, 1, 44)", "rod(2, 2, 44)", "tide(40, " + wind + ", 0)");
            for (int kind = 0; kind <= 2; kind++) {
                r.due("about(" + kind + ", 5)", taken[wind][kind]).due("about(" + kind + ", 2)", 44 - taken[wind][kind]);
            }
        }
        // EARTH and POSTS with 2 more: 44 to 43 at 40, or by HIGH 52 (26, 39, 52, 39, 26, 13) at 39: 42 to 38.
        Run r = new Run("part 2, kinds 10 above");
        r.go("rod(0, 0, 42)", "rod(1, 2, 42)", "tide(52, 1, 0)");
        // EARTH: 39 above 37: 40; 52 is 12 above: 36; 39 above 31: 34; 26 no; POSTS: 41; 52 is 11 above: 38; 39: 37; 26 no.
        r.due("about(0, 2)", 34).due("about(0, 5)", 8).due("about(1, 2)", 37).due("about(1, 5)", 5);
        // No HEIGHT is worn below 0, and only what was taken is counted.
        Run s = new Run("part 2, worn out");
        s.go("rod(0, 0, 1)", "tide(4, 3, 0)").due("about(0, 2)", 0).due("about(0, 5)", 1).due("about(0, 4)", 0);
    }

    private static void breaking() {
        // 20 above: it BREAKS in place of the wear; 19 above: it wears.
        Run r = new Run("part 2, breaking");
        r.go("rod(0, 0, 41)", "rod(1, 1, 40)", "rod(2, 2, 41)", "rod(3, 1, 41)");
        // HIGH 60: 30, 45, 60, 45, 30, 15. EARTH 41: 40 at 45, then 60 is 20 above: 20, 45: 10, 30: 5, 15 is 10 above: 2.
        r.go("rod(4, 2, 40)").due("tide(60, 0, 0)", 3);
        r.due("about(0, 2)", 2).due("about(0, 4)", 3).due("about(0, 5)", 39);
        // STONE 40: 60 breaks it to 26, 45 is 19 above: 24. POSTS 41 wear as STONE does without WIND: 60 is 19 above: 39.
        r.due("about(1, 2)", 24).due("about(1, 4)", 1).due("about(1, 5)", 16);
        r.due("about(3, 2)", 39).due("about(3, 4)", 0).due("about(3, 5)", 2);
        r.due("about(2, 2)", 39).due("about(2, 4)", 0).due("about(2, 5)", 2);
        // POSTS 40: 60: 20, 45: 10, 30: 5, 15 is 10 above: 3.
        r.due("about(4, 2)", 3).due("about(4, 4)", 3).due("about(4, 5)", 37);
        // Nothing is left to break and yet it BREAKS: once a TIDE counts it as one ROD.
        Run s = new Run("part 2, breaking at 0");
        s.go("rod(0, 1, 0)").due("tide(20, 0, 0)", 1).due("about(0, 4)", 1).due("about(0, 5)", 0);
        s.due("tide(19, 0, 0)", 0).due("tide(120, 0, 0)", 1).due("about(0, 4)", 7);
    }

    private static void due() {
        Run r = new Run("promise 8, due");
        r.go("rod(0, 0, 99)", "pass(98)").due("about(0, 7)", 0).go("pass(1)").due("about(0, 7)", 1);
        r.custom("v 5", 100).due("about(0, 7)", 1).go("view(0)").due("about(0, 7)", 0);
        // The CUSTOM of now: v 5 from day 100 on.
        r.go("pass(4)").due("about(0, 7)", 0).go("pass(1)").due("about(0, 7)", 1);
        r.custom("h 9", 104).due("about(0, 7)", 0).custom("v 6", 104).due("about(0, 7)", 0).custom("v 5", 104).due("about(0, 7)", 1);
        Run s = new Run("promise 8, due on day 0");
        s.go("rod(0, 0, 9)").custom("v 1", 0).due("about(0, 7)", 0).go("view(0)").due("about(0, 7)", 0);
        s.go("tide(0, 0, 0)").due("about(0, 7)", 1).due("view(0)", 0).due("about(0, 7)", 0);
    }
}
