/** The boundary cases of section 2 of the document and of promises 6 to 8 and 14 to 16, one test for each sentence. */
public final class TideEdgesTest {
    private static final int NONE = MarshCourt.NONE, BAD = MarshCourt.BAD, FULL = MarshCourt.FULL;
    private static final int EARTH = 0, STONE = 1, POSTS = 2;

    public static void main(String[] args) {
        rodNumbers();
        rodFull();
        kinds();
        heights();
        sluiceKinds();
        abouts();
        wearBegins();
        wearOnLowBanks();
        wearByWind();
        twoMore();
        breaksAt20();
        half();
        twoThirds();
        howManyBroke();
        tideNumbers();
        hours();
        rain();
        overTheBank();
        sluiceOut();
        sluiceAsMuchAsThereIs();
        sluiceIn();
        quarters();
        quartersBack();
        asMuchAsThereIs();
        peak();
        saltBy200();
        nineYears();
        saltIfMore();
        saltIfSeaCame();
        years();
        passNumbers();
        passFull();
        tideFull();
        cameModulo();
        wentModulo();
        Run.finish();
    }

    private static void rodNumbers() {
        Run r = Run.of("RODS are numbered from 0 on, 24 at most, in a row").due("about(0, 0)", NONE).due("sluice(0, 1)", NONE);
        r.due("view(0)", NONE).due("mend(0, 0, 1)", NONE).due("mender(0, 0, 0, 0)", NONE).due("fault(0, 0)", NONE);
        for (int rod = 0; rod < 24; rod++) {
            r.due("rod(" + rod + ", 1, " + rod + ")", rod);
        }
        r.due("about(0, 0)", 0).due("about(23, 0)", 23).outside("about(#, 0)", NONE, 0, 23);
        r.due("sluice(0, 1)", 0).due("sluice(23, 1)", 0).outside("sluice(#, 1)", NONE, 0, 23);
        r.due("view(0)", 0).due("view(23)", 0).outside("view(#)", NONE, 0, 23);
        r.due("mend(0, 0, 1)", 1).due("mend(23, 0, 1)", 24).outside("mend(#, 0, 1)", NONE, 0, 23);
        r.due("mender(0, 0, 0, 0)", -5).due("mender(23, 0, 0, 0)", -5).outside("mender(#, 0, 0, 0)", NONE, 0, 23);
        r.custom("h 99", 0).go("view(0)", "view(23)").due("fault(0, 2)", 98).due("fault(23, 2)", 75).outside("fault(#, 2)", NONE, 0, 23);
    }

    private static void rodFull() {
        Run r = Run.of("A ROD more: its number. NONE: cell; BAD; FULL.");
        for (int rod = 0; rod < 23; rod++) {
            r.due("rod(0, 0, 9)", rod);
        }
        r.due("rod(29, 2, 99)", 23).due("rod(0, 0, 9)", FULL).due("count(1)", 24).due("about(24, 0)", NONE);
        r.due("rod(0, 3, 9)", BAD).due("rod(0, 0, 100)", BAD).due("rod(30, 0, 9)", NONE).due("rod(-1, 3, 100)", NONE);
    }

    private static void kinds() {
        Run r = Run.of("KINDS: 0 EARTH, 1 STONE, 2 POSTS under EARTH.");
        r.due("rod(0, 0, 9)", 0).due("rod(0, 1, 9)", 1).due("rod(0, 2, 9)", 2).outside("rod(0, #, 9)", BAD, 0, 2);
        r.due("about(0, 1)", 0).due("about(1, 1)", 1).due("about(2, 1)", 2).due("count(1)", 3).due("rod(30, 3, 9)", NONE);
    }

    private static void heights() {
        Run r = Run.of("with a HEIGHT (0 .. 99) and perhaps a SLUICE");
        r.due("rod(0, 0, 0)", 0).due("rod(0, 0, 99)", 1).outside("rod(0, 0, #)", BAD, 0, 99).due("rod(30, 0, 100)", NONE);
        r.due("about(0, 2)", 0).due("about(1, 2)", 99).due("about(0, 3)", 0).due("count(1)", 2);
    }

    private static void sluiceKinds() {
        Run r = Run.of("SLUICE of a ROD: what it was. NONE; BAD: not 0 .. 3.").go("rod(0, 0, 0)");
        r.due("sluice(0, 0)", 0).due("sluice(0, 3)", 0).due("sluice(0, 2)", 3).due("sluice(0, 1)", 2);
        r.outside("sluice(0, #)", BAD, 0, 3).due("about(0, 3)", 1).due("sluice(1, 4)", NONE).due("sluice(-1, -1)", NONE);
    }

    private static void abouts() {
        Run r = Run.of("6 the DAY of its latest VIEW (NONE), 7 whether it is DUE (1, 0). NONE.").go("rod(3, 2, 50)");
        r.due("about(0, 0)", 3).due("about(0, 1)", 2).due("about(0, 2)", 50).due("about(0, 3)", 0).due("about(0, 4)", 0);
        r.due("about(0, 5)", 0).due("about(0, 6)", NONE).due("about(0, 7)", 0).outside("about(0, #)", NONE, 0, 7);
        r.go("view(0)").due("about(0, 6)", 0).go("pass(400)").due("about(0, 6)", 0).due("about(0, 7)", 1);
        r.go("view(0)").due("about(0, 6)", 400).due("about(0, 7)", 0).due("about(1, 8)", NONE);
    }

    /** The three KINDS, 80 high: the SEA of the third HOUR alone comes near them if HIGH is 70 to 99. */
    private static Run threeOf80(Run r) {
        return r.go("rod(0, 0, 80)", "rod(8, 1, 80)", "rod(16, 2, 80)");
    }

    private static void wore(Run r, int kind, int height, int much) {
        r.due("about(" + kind + ", 5)", much).due("about(" + kind + ", 2)", height - much);
    }

    private static void wearBegins() {
        Run r = threeOf80(Run.of("WEAR in an HOUR in which SEA is above HEIGHT less 5")).due("tide(75, 3, 0)", 0);
        wore(r, EARTH, 80, 0);
        wore(r, STONE, 80, 0);
        wore(r, POSTS, 80, 0);
        Run s = threeOf80(new Run("SEA 1 above HEIGHT less 5")).due("tide(76, 3, 0)", 0);
        wore(s, EARTH, 80, 4);
        wore(s, STONE, 80, 0);
        wore(s, POSTS, 80, 2);
    }

    private static void wearOnLowBanks() {
        // HEIGHT less 5 is below 0 then, and a SEA of 0 is above that; no HEIGHT goes below 0.
        Run r = new Run("wear on low banks").go("rod(0, 0, 5)", "rod(8, 0, 4)", "rod(16, 1, 4)", "rod(24, 2, 4)").go("tide(0, 0, 0)");
        r.due("about(0, 2)", 5).due("about(0, 5)", 0).due("about(1, 2)", 0).due("about(1, 5)", 4);
        r.due("about(2, 2)", 4).due("about(3, 2)", 4).go("tide(0, 1, 0)").due("about(3, 2)", 0).due("about(3, 5)", 4).due("count(6)", 0);
        r.due("about(0, 2)", 5).go("tide(1, 3, 0)").due("about(0, 2)", 0).due("about(0, 5)", 5).due("about(0, 4)", 0);
    }

    private static void wearByWind() {
        int[] posts = {0, 1, 1, 2};
        Run.of("EARTH 1 and WIND, POSTS half of that, cut, STONE none");
        for (int wind = 0; wind <= 3; wind++) {
            Run r = threeOf80(new Run("wear by wind " + wind)).due("tide(76, " + wind + ", 0)", 0);
            wore(r, EARTH, 80, 1 + wind);
            wore(r, STONE, 80, 0);
            wore(r, POSTS, 80, posts[wind]);
        }
    }

    private static void twoMore() {
        int[] posts = {0, 1, 1, 2};
        Run.of("of any KIND 2 more if SEA is 10 or more above HEIGHT");
        for (int wind = 0; wind <= 3; wind++) {
            Run r = threeOf80(new Run("9 above, wind " + wind)).due("tide(89, " + wind + ", 0)", 0).due("count(6)", 270);
            wore(r, EARTH, 80, 1 + wind);
            wore(r, STONE, 80, 0);
            wore(r, POSTS, 80, posts[wind]);
            Run s = threeOf80(new Run("10 above, wind " + wind)).due("tide(90, " + wind + ", 0)", 0).due("count(6)", 300);
            wore(s, EARTH, 80, 1 + wind + 2);
            wore(s, STONE, 80, 2);
            wore(s, POSTS, 80, posts[wind] + 2);
        }
    }

    private static void breaksAt20() {
        // The SEA at 59, 88, 118, 88, 59, 29: 19 above 99 once.
        Run r = Run.of("It BREAKS, in place of that, if SEA is 20 or more above HEIGHT");
        r.go("rod(0, 0, 99)", "rod(8, 1, 99)", "rod(16, 2, 99)").due("tide(118, 0, 0)", 0);
        wore(r, EARTH, 99, 3);
        wore(r, STONE, 99, 2);
        wore(r, POSTS, 99, 2);
        r.due("about(0, 4)", 0).due("about(1, 4)", 0).due("about(2, 4)", 0);
        // At 59, 89, 119, 89, 59, 29. EARTH: 49, 24, 12, then 17 above: 9. STONE: 66, 44, 15 above: 42. POSTS: 49, 24, 12, 10.
        Run s = new Run("20 above").go("rod(0, 0, 99)", "rod(8, 1, 99)", "rod(16, 2, 99)").due("tide(119, 0, 0)", 3);
        wore(s, EARTH, 99, 90);
        wore(s, STONE, 99, 57);
        wore(s, POSTS, 99, 89);
        s.due("about(0, 4)", 3).due("about(1, 4)", 2).due("about(2, 4)", 3);
        // A bank of 0: 10, 15, 20 above it; or 19 at most.
        Run t = new Run("20 above 0").go("rod(0, 0, 0)").due("tide(19, 3, 0)", 0).due("about(0, 4)", 0).due("tide(20, 3, 0)", 1);
        t.due("about(0, 4)", 1).due("about(0, 2)", 0).due("about(0, 5)", 0);
    }

    private static void half() {
        // HIGH 26 has the SEA at 13, 19, 26, 19, 13, 6. POSTS without WIND wear by 2 from 10 above on.
        Run r = Run.of("HEIGHT becomes half, cut (STONE: two thirds, cut)").go("rod(0, 2, 6)", "rod(8, 2, 5)", "rod(16, 2, 7)");
        // 6: 19 is 13 above: 4; 26 is 22 above: 2; 19 is 17 above: 0; 13: 0; 6: 0. 5: 3, 1, 0. 7: 5, 2, 0.
        r.due("tide(26, 0, 0)", 3).due("about(0, 5)", 6).due("about(1, 5)", 5).due("about(2, 5)", 7).due("about(0, 4)", 1);
        // 9 at the SEA of 16, 25, 33, 25, 16, 8: 16 above: 7; 26 above: 3; 22 above: 1; 15 above: 0. What comes over tells each.
        Run s = new Run("half, cut").go("rod(0, 2, 9)").due("tide(33, 0, 0)", 1).due("about(0, 4)", 2);
        s.due("count(6)", 10 * (7 + 15 + 26 + 21 + 15 + 8)).due("about(0, 5)", 9);
    }

    private static void twoThirds() {
        // One BREAK in the third HOUR (to 26, 27, 28), then 19 or 18 above once: 2 more.
        Run.of("(STONE: two thirds, cut)");
        for (int height = 40; height <= 42; height++) {
            Run r = new Run("two thirds of " + height).go("rod(0, 1, " + height + ")").due("tide(" + (height + 20) + ", 3, 0)", 1);
            r.due("about(0, 2)", height - 16).due("about(0, 4)", 1).due("about(0, 5)", 16);
        }
        Run s = new Run("19 above 40").go("rod(0, 1, 40)").due("tide(59, 3, 0)", 0).due("about(0, 2)", 38).due("about(0, 4)", 0);
    }

    private static void howManyBroke() {
        Run r = Run.of("A TIDE: how many RODS BROKE. BAD; FULL: DAY would be above 9999.").due("tide(120, 0, 0)", 0);
        for (int rod = 0; rod < 24; rod++) {
            r.go("rod(" + rod + ", 1, 0)");
        }
        // Each of them BREAKS in six HOURS, and is one ROD.
        r.due("tide(120, 0, 0)", 24).due("about(23, 4)", 6).due("tide(0, 0, 0)", 0).due("tide(20, 0, 0)", 24).due("tide(19, 0, 0)", 0);
    }

    private static void tideNumbers() {
        Run r = Run.of("A TIDE (HIGH 0 .. 120, WIND 0 .. 3, RAIN 0 .. 50) has six HOURS");
        r.due("tide(0, 0, 0)", 0).due("tide(120, 3, 50)", 0).due("count(10)", 2);
        r.outside("tide(#, 0, 0)", BAD, 0, 120).outside("tide(0, #, 0)", BAD, 0, 3).outside("tide(0, 0, #)", BAD, 0, 50);
        r.due("count(10)", 2).due("count(0)", 2).due("count(6)", 9000).due("cell(0, 1)", 300);
    }

    private static void hours() {
        // 10 times the sum of the six, over a bank of 0.
        int[] sums = {0, 1, 6, 9, 15, 16, 21, 24, 30};
        Run.of("SEA is HIGH times 2, 3, 4, 3, 2, 1 by 4, cut.");
        for (int high = 0; high < sums.length; high++) {
            Run r = new Run("the hours of " + high).go("rod(0, 1, 0)", "tide(" + high + ", 0, 0)").due("count(6)", 10 * sums[high]);
        }
        // 60, 90, 120, 90, 60, 30: 21 above 99: 66; 24 above: 44; 16 above: 42.
        Run s = new Run("the hours of 120").go("rod(0, 1, 99)", "tide(120, 0, 0)").due("count(6)", 210 + 240 + 160).due("about(0, 2)", 42);
    }

    private static void rain() {
        Run r = Run.of("(1) each CELL gets RAIN.").go("tide(0, 3, 0)").due("count(6)", 0).due("count(8)", 0);
        r.go("tide(0, 0, 1)").due("count(6)", 180).due("cell(0, 1)", 6).due("cell(29, 1)", 6);
        r.go("tide(0, 0, 50)").due("count(6)", 9180).due("cell(0, 1)", 306).due("cell(29, 3)", 306).due("count(8)", 9180);
    }

    private static void overTheBank() {
        Run r = Run.of("where SEA is above HEIGHT its CELL gets 10 times how far").go("rod(0, 1, 40)");
        r.go("tide(39, 0, 0)").due("count(6)", 0).go("tide(40, 0, 0)").due("count(6)", 0).due("cell(0, 3)", 0);
        r.go("tide(41, 0, 0)").due("count(6)", 10).go("tide(42, 0, 0)").due("count(6)", 30);
        // By the HEIGHT ahead of the wear, as 'then it wears or BREAKS' has it: 1 above 40, and 36 is left.
        Run s = Run.of("then it wears or BREAKS").go("rod(0, 0, 40)", "tide(41, 3, 0)").due("count(6)", 10).due("about(0, 2)", 36);
    }

    /** 30 of WATER in each CELL, CELL 0 so many higher than the rest, with a SLUICE that is opened now. */
    private static Run thirty(Run r, int level, int how) {
        return r.go("rod(0, 1, 99)", "tide(0, 0, 5)", "level(0, " + level + ")", "sluice(0, " + how + ")", "tide(0, 0, 0)");
    }

    private static void sluiceOut() {
        thirty(Run.of("SURFACE of the CELL above SEA, and it is open or by the tide: 5 times how far goes out, as much as there is"), 0, 2).due("count(7)", 0);
        thirty(new Run("as high as the SEA, by the tide"), 0, 3).due("count(7)", 0);
        thirty(new Run("1 above the SEA, none"), 1, 0).due("count(7)", 0);
        thirty(new Run("1 above the SEA, shut"), 1, 1).due("count(7)", 0);
        thirty(new Run("1 above the SEA, open"), 1, 2).due("count(7)", 5).due("count(8)", 895);
        thirty(new Run("1 above the SEA, by the tide"), 1, 3).due("count(7)", 5).due("count(8)", 895);
    }

    private static void sluiceAsMuchAsThereIs() {
        thirty(new Run("as much as there is: 25 of 30"), 5, 3).due("count(7)", 25);
        thirty(new Run("as much as there is: 30 of 30"), 6, 3).due("count(7)", 30);
        thirty(new Run("as much as there is: 35 of 30"), 7, 3).due("count(7)", 30).due("cell(0, 1)", 0);
        thirty(new Run("as much as there is: 300 of 30"), 60, 2).due("count(7)", 30).due("count(8)", 870);
        // Nothing there, nothing goes.
        Run r = new Run("no water").go("level(0, 60)", "rod(0, 1, 99)", "sluice(0, 2)", "tide(0, 0, 0)").due("count(7)", 0).due("cell(0, 1)", 0);
    }

    private static void sluiceIn() {
        int[] comes = {0, 0, 5, 0};
        Run.of("SEA above SURFACE, and it is open: 5 times how far comes in.");
        for (int how = 0; how <= 3; how++) {
            Run r = new Run("1 below the SEA, sluice " + how).go("rod(0, 1, 99)", "sluice(0, " + how + ")", "tide(1, 0, 0)");
            r.due("count(6)", comes[how]).due("count(7)", 0);
            Run s = new Run("as high as the SEA, sluice " + how).go("level(0, 1)", "rod(0, 1, 99)", "sluice(0, " + how + ")");
            s.go("tide(1, 0, 0)").due("count(6)", 0).due("count(7)", 0).due("cell(0, 3)", 0);
        }
    }

    private static void quarters() {
        // 10 come to CELL 0 in the third HOUR: 2 go right, 2 below (of 8); then 1 right (of 4), none below (of 3), none of 2.
        Run r = Run.of("a quarter, cut, of by how much the one's TOP is above the other's goes from that one to the other, as much as there is");
        r.go("rod(0, 1, 39)", "tide(40, 0, 0)").due("cell(0, 1)", 5).due("cell(1, 1)", 3).due("cell(6, 1)", 2).due("cell(7, 1)", 0);
        r.due("cell(0, 3)", 6).due("count(8)", 10);
    }

    private static void quartersBack() {
        // 10 come to CELL 1: 2 go back to 0, 2 to 2 (of 8), 1 to 7 (of 6); then none of 3, none of 3, 1 of 4.
        Run r = Run.of("(4) Each CELL by numbers, first with the right one, then with the one below").go("rod(1, 1, 39)", "tide(40, 0, 0)");
        r.due("cell(0, 1)", 2).due("cell(1, 1)", 4).due("cell(2, 1)", 2).due("cell(7, 1)", 2).due("count(8)", 10).due("cell(6, 1)", 0);
        Run s = new Run("the last cell").go("rod(29, 1, 39)", "tide(40, 0, 0)").due("count(8)", 10);
        // CELL 23's turn (with the one below) gives it 2, CELL 28's (with the right one) 2 of 8; then 23 gets 1 of 4.
        s.due("cell(23, 1)", 3).due("cell(28, 1)", 2).due("cell(29, 1)", 5);
    }

    private static void asMuchAsThereIs() {
        // LEVEL 1 above the rest: 100 and more is above, 25 and more would go, all of what is there goes.
        Run r = Run.of("TOP being 100 times LEVEL and WATER").go("level(0, 1)", "tide(0, 0, 1)").due("cell(0, 1)", 0).due("count(8)", 180);
        // 100 of WATER against LEVEL 1: the same TOP, and nothing goes.
        topAgainstLevel("the same TOP", 10, 1, 100, 0);
        topAgainstLevel("the same TOP by LEVEL 4", 40, 4, 400, 0);
        // 10 above: 2 go, then 1 of 6, 1 of 4, none of 2.
        topAgainstLevel("10 above", 11, 1, 106, 4);
        // LEVEL 2 is above 110, but no WATER is there that could go.
        topAgainstLevel("none is there", 11, 2, 110, 0);
    }

    /** CELLS 0 and 1 between walls: so many tens of WATER in CELL 0, then CELL 1 is put at a LEVEL. */
    private static void topAgainstLevel(String name, int tens, int level, int due, int dueBeside) {
        Run r = new Run(name).go("level(1, 60)", "level(6, 60)", "level(7, 60)", "level(2, 60)", "rod(0, 1, 39)");
        for (int i = 0; i < tens; i++) {
            r.go("tide(40, 0, 0)");
        }
        r.due("cell(0, 1)", 10 * tens).go("level(1, " + level + ")", "tide(0, 0, 0)");
        r.due("cell(0, 1)", due).due("cell(1, 1)", dueBeside);
    }

    private static void peak() {
        Run r = Run.of("PEAK of a CELL: the most WATER behind an HOUR's (4) in the TIDE.");
        r.go("rod(0, 1, 39)", "tide(40, 0, 0)").due("cell(0, 3)", 6).due("cell(1, 3)", 3).due("cell(6, 3)", 2).due("cell(7, 3)", 0);
        // Of the latest TIDE alone; a TIDE without WATER that moves has what is there.
        r.go("tide(0, 0, 0)").due("cell(0, 3)", 5).due("cell(1, 3)", 3).due("cell(6, 3)", 2);
    }

    /** CELL 0 as a pit with an open SLUICE: the walls' rain runs into it, and no WATER goes over the walls. */
    private static Run pit(String name) {
        return new Run(name).go("level(1, 60)", "level(6, 60)", "rod(0, 1, 99)", "sluice(0, 2)");
    }

    private static void saltBy200() {
        Run.of("each CELL has so many years as PEAK by 200, cut, 9 at most, if that is more than it has");
        pit("PEAK 199").go("tide(4, 0, 3)", "tide(6, 0, 0)").due("cell(0, 3)", 199).due("cell(0, 4)", 0).due("year()", 0);
        pit("PEAK 200").go("tide(4, 0, 0)", "tide(8, 0, 0)").due("cell(0, 3)", 200).due("cell(0, 4)", 1).due("year()", 0);
        pit("PEAK 399").go("tide(0, 0, 8)", "tide(18, 0, 0)").due("cell(0, 3)", 399).due("cell(0, 4)", 1);
        pit("PEAK 400").go("tide(0, 0, 10)", "tide(17, 0, 0)").due("cell(0, 3)", 400).due("cell(0, 4)", 2);
    }

    private static void nineYears() {
        Run.of("9 at most");
        pit("PEAK 1799").go("tide(0, 0, 18)", "tide(96, 0, 0)").due("cell(0, 3)", 1799).due("cell(0, 4)", 8);
        pit("PEAK 1800").go("tide(0, 0, 25)", "tide(92, 0, 0)").due("cell(0, 3)", 1800).due("cell(0, 4)", 9);
        pit("PEAK 1999").go("tide(1, 0, 38)", "tide(95, 0, 0)").due("cell(0, 3)", 1999).due("cell(0, 4)", 9);
        pit("PEAK 2000").go("tide(0, 0, 45)", "tide(90, 0, 0)").due("cell(0, 3)", 2000).due("cell(0, 4)", 9);
    }

    private static void saltIfMore() {
        Run r = pit("if that is more than it has").go("tide(0, 0, 25)", "tide(92, 0, 0)").due("cell(0, 4)", 9).due("year()", 1).due("cell(0, 4)", 8);
        // The SEA at 46 and more comes again to what is 18 high: a PEAK of 1800 and more is 9 again.
        r.go("tide(92, 0, 0)").due("cell(0, 4)", 9).due("year()", 1).due("year()", 1).due("cell(0, 4)", 7);
        // Less than it has, as much as it has: nothing changes.
        Run s = pit("not more than it has").go("tide(0, 0, 10)", "tide(17, 0, 0)").due("cell(0, 4)", 2).go("tide(17, 0, 0)");
        s.due("cell(0, 4)", 2).go("sluice(0, 3)", "tide(0, 0, 0)", "tide(0, 0, 0)", "tide(0, 0, 0)", "sluice(0, 2)", "tide(8, 0, 0)");
        s.due("cell(0, 3)", s.call("cell(0, 3)")).due("cell(0, 4)", 2);
        Run.holds("not more than it has", "that PEAK is below 400", s.call("cell(0, 3)") < 400);
    }

    private static void saltIfSeaCame() {
        Run r = Run.of("behind a TIDE by which SEA came to any CELL").go("rod(0, 1, 40)", "tide(40, 0, 50)").due("cell(29, 3)", 300);
        r.due("cell(29, 4)", 0).due("year()", 0);
        // 10 of it over a bank far away are enough for all, and so are 5 through a SLUICE; what goes out is not.
        r.go("tide(41, 0, 0)").due("count(6)", 9010).due("cell(29, 4)", 1).due("cell(0, 4)", 1).due("year()", 0);
        // A TIDE of rain alone behind it brings no more, though the PEAK is 606 then.
        r.go("tide(41, 0, 0)").due("cell(29, 4)", 1).go("tide(40, 0, 50)").due("cell(29, 4)", 1).go("tide(41, 0, 0)").due("cell(29, 4)", 3);
        // An open SLUICE with the SEA as high as SURFACE brings none: 216 in the pit by rain, and 72 in CELL 29.
        Run t = new Run("none by a sluice").go("level(1, 60)", "level(6, 60)", "rod(29, 1, 99)", "sluice(0, 2)", "tide(0, 0, 12)");
        t.due("cell(0, 3)", 216).due("cell(0, 4)", 0).due("cell(29, 3)", 72).due("year()", 0);
        Run s = new Run("by a sluice").go("tide(0, 0, 50)", "rod(0, 1, 99)", "sluice(0, 3)", "tide(16, 0, 0)").due("cell(29, 4)", 0);
        s.due("count(6)", 9000).go("level(0, 1)", "sluice(0, 2)", "tide(0, 0, 0)").due("count(6)", 9000).due("cell(29, 4)", 0);
        Run.holds("by a sluice", "some went out", s.call("count(7)") > 0);
        s.go("level(0, 3)", "tide(5, 0, 0)").due("cell(29, 4)", 1);
        Run.holds("by a sluice", "some came", s.call("count(6)") > 9000);
    }

    private static void years() {
        Run r = Run.of("A YEAR: how many CELLS have SALT then.").due("year()", 0).due("cell(0, 4)", 0);
        r.go("tide(0, 0, 50)", "tide(0, 0, 50)", "rod(0, 1, 39)", "tide(40, 0, 0)").due("cell(0, 4)", 3).due("cell(29, 4)", 3);
        r.due("year()", 30).due("cell(29, 4)", 2).due("year()", 30).due("cell(29, 4)", 1).due("year()", 0).due("cell(29, 4)", 0);
        r.due("year()", 0).due("cell(29, 4)", 0).due("cell(0, 4)", 0);
    }

    private static void passNumbers() {
        Run r = Run.of("PASS n DAYS (1 .. 400): DAY. BAD; FULL.").due("pass(1)", 1).due("pass(400)", 401).outside("pass(#)", BAD, 1, 400);
        r.due("count(0)", 401).due("count(10)", 0);
    }

    private static Run onDay9600(Run r) {
        for (int day = 400; day <= 9600; day += 400) {
            r.due("pass(400)", day);
        }
        return r;
    }

    private static void passFull() {
        Run r = onDay9600(new Run("pass, full")).due("pass(400)", FULL).due("count(0)", 9600).due("pass(401)", BAD).due("pass(0)", BAD);
        r.due("pass(399)", 9999).due("pass(1)", FULL).due("pass(400)", FULL).due("pass(0)", BAD).due("pass(401)", BAD).due("count(0)", 9999);
    }

    private static void tideFull() {
        Run r = onDay9600(Run.of("FULL: DAY would be above 9999")).due("pass(398)", 9998).due("tide(0, 0, 1)", 0).due("count(0)", 9999);
        r.due("tide(0, 0, 1)", FULL).due("count(0)", 9999).due("count(10)", 1).due("cell(0, 1)", 6).due("cell(0, 3)", 6);
        r.due("tide(121, 0, 0)", BAD).due("tide(0, 4, 0)", BAD).due("tide(0, 0, 51)", BAD);
        // All else goes on upon the last DAY.
        r.due("sell(0, 0, 1, 1, 9999)", 1).due("rod(0, 0, 1)", 0).due("view(0)", 0).due("about(0, 6)", 9999).due("year()", 0);
    }

    private static void cameModulo() {
        Run r = Run.of("6 CAME modulo 1000000, 7 WENT likewise").go("rod(0, 1, 0)");
        for (int i = 0; i < 111; i++) {
            r.go("tide(0, 0, 50)");
        }
        // 10 times 13, 20, 27, 20, 13, 6 are 990, and 10 more by a SEA of 1.
        r.due("count(6)", 999000).go("tide(27, 0, 0)").due("count(6)", 999990).go("tide(1, 0, 0)").due("count(6)", 0);
        r.due("count(8)", 1000000).go("tide(1, 0, 0)").due("count(6)", 10).due("count(8)", 1000010).due("count(7)", 0);
    }

    /** Fills the land with 1019040, then lets it run out up to 999995, 1000000, 1000005. */
    private static void wentModulo() {
        Run r = new Run("WENT modulo 1000000");
        for (int rod = 0; rod < 24; rod++) {
            r.go("rod(" + rod + ", 1, 0)");
        }
        for (int i = 0; i < 9; i++) {
            r.go("tide(120, 0, 0)");
        }
        r.go("tide(53, 0, 0)");
        for (int rod = 0; rod < 24; rod++) {
            r.go("mend(" + rod + ", 0, 99)", "sluice(" + rod + ", 3)");
        }
        r.due("count(8)", 1019040).due("count(7)", 0);
        long water = 1019040;
        while (water > 25000) {
            r.go("tide(0, 0, 0)");
            water = r.call("count(8)");
            Run.holds("went", "not yet a million: " + water, water > 19100);
        }
        for (int rod = 1; rod < 24; rod++) {
            r.go("sluice(" + rod + ", 1)");
        }
        letOutSlowly(r, 19045);
        r.due("count(7)", 999995);
        letOutSlowly(r, 19040);
        r.due("count(7)", 0).due("count(6)", 19040);
        letOutSlowly(r, 19035);
        r.due("count(7)", 5);
    }

    /** By a SEA that stands below SURFACE in the last HOUR alone, by so many as still are to go. */
    private static void letOutSlowly(Run r, long aim) {
        for (long water = r.call("count(8)"); water > aim; water = r.call("count(8)")) {
            int surface = (int) r.call("cell(0, 2)");
            int below = (int) Math.min((water - aim) / 5, surface / 2);
            r.go("tide(" + 4 * (surface - below) + ", 0, 0)");
        }
    }
}
