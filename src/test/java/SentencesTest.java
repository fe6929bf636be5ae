/**
 * Sentences of the document that name no boundary and so had no test of their own on the third reading (issue 8), in
 * the document's order. Those that name one are in the EdgesTests; QuotesTest looks that none is left out.
 */
public final class SentencesTest {
    private static final int NONE = MarshCourt.NONE, BAD = MarshCourt.BAD, STATE = MarshCourt.STATE, FULL = MarshCourt.FULL;
    private static final int COMMON = -5;

    public static void main(String[] args) {
        lastOf512Calls();
        greatestTidesAllLife();
        sideBySide();
        eachRodItsOwn();
        sluiceKinds();
        hourInOrder();
        eachRodGives();
        eachSluiceByRods();
        herdsComeLast();
        cameAndWent();
        saltOfEachCell();
        yearTakesOne();
        theWay();
        readFromTheTape();
        menderByEachKind();
        acresInOrder();
        fineUpToItsEnd();
        toMend();
        scotsComeOutWhole();
        oneSale();
        aboutRods();
        aheadAndBehindTheGate();
        Run.finish();
    }

    // ---- what it is

    private static void lastOf512Calls() {
        Run r = new Run("an object is used for at most 512 calls");
        for (int day = 1; day <= 510; day++) {
            r.due("pass(1)", day);
        }
        r.due("count(0)", 510).due("pass(0)", BAD);
    }

    private static void greatestTidesAllLife() {
        // 24 banks of 0, 10 times 60, 90, 120, 90, 60, 30 over each, and 9000 of rain: 117000 by each TIDE.
        Run r = new Run("485 of the greatest tides");
        for (int rod = 0; rod < 24; rod++) {
            r.go("rod(" + rod + ", 1, 0)");
        }
        for (int i = 0; i < 485; i++) {
            r.go("tide(120, 3, 50)");
        }
        r.due("count(8)", 56745000).due("count(6)", 745000).due("count(10)", 485);
    }

    // ---- 2 rods, tides

    private static void sideBySide() {
        Run r = Run.of("in a row (RODS that follow one another are side by side)").custom("h 10", 0);
        // By numbers, not by CELLS: 0, 1, 2 follow one another, though their CELLS lie far apart; 1 and 3 do not.
        r.go("rod(0, 0, 9)", "rod(29, 0, 9)", "rod(15, 0, 9)", "rod(29, 0, 9)").due("works(200, 1)", 0b1011).due("works(200, 2)", 3);
        Run s = new Run("one that is no part of the set between them").custom("h 10", 0);
        s.go("rod(3, 0, 9)", "rod(3, 0, 9)", "rod(3, 0, 10)", "rod(3, 0, 9)", "rod(3, 0, 9)").due("works(200, 1)", 0b11011);
    }

    private static void eachRodItsOwn() {
        Run r = Run.of("each ahead of a CELL, of a KIND, with a HEIGHT (0 .. 99) and perhaps a SLUICE");
        for (int rod = 0; rod < 24; rod++) {
            r.due("rod(" + (29 - rod) + ", " + rod % 3 + ", " + 4 * rod + ")", rod);
        }
        for (int rod = 0; rod < 24; rod += 2) {
            r.due("sluice(" + rod + ", " + rod / 2 % 4 + ")", 0);
        }
        for (int rod = 0; rod < 24; rod++) {
            r.due("about(" + rod + ", 0)", 29 - rod).due("about(" + rod + ", 1)", rod % 3).due("about(" + rod + ", 2)", 4 * rod);
            r.due("about(" + rod + ", 3)", rod % 2 == 1 ? 0 : rod / 2 % 4);
        }
    }

    private static void sluiceKinds() {
        int[] in = {0, 0, 140, 0};
        int[] out = {0, 0, 42, 42};
        Run.of("SLUICE: 0 none, 1 shut, 2 open, 3 by the tide.");
        for (int how = 0; how <= 3; how++) {
            // A pit of 0 and the SEA at 4, 6, 8, 6, 4, 2: 20, 30, 40, 30, and with a SURFACE of 1 then 15, 5.
            Run r = pit("the sea, sluice " + how).go("rod(0, 1, 99)", "sluice(0, " + how + ")", "tide(8, 0, 0)");
            r.due("count(6)", in[how]).due("cell(0, 1)", in[how]).due("count(7)", 0);
            // Land of 60 and the SEA at 0: all of the rain.
            Run s = new Run("the rain, sluice " + how).go("level(0, 60)", "rod(0, 1, 99)", "sluice(0, " + how + ")", "tide(0, 0, 7)");
            s.due("count(7)", out[how]).due("count(8)", 1260 - out[how]);
        }
    }

    /** CELL 0 between two walls. */
    private static Run pit(String name) {
        return new Run(name).go("level(1, 60)", "level(6, 60)");
    }

    private static void hourInOrder() {
        // The rain is there when the SLUICE runs, and the SLUICE has run when the WATER spreads: all of it goes out.
        Run r = Run.of("In each HOUR: (1) each CELL gets RAIN.").go("level(29, 60)", "rod(29, 1, 99)", "sluice(0, 2)", "tide(0, 0, 20)");
        r.due("count(7)", 120).due("cell(29, 3)", 0).due("cell(28, 1)", 120).due("cell(23, 1)", 120).due("count(8)", 3480);
        // The SEA has come over the bank when the SLUICE runs: 100 of it make a SURFACE of 1, so 5 times 9 come in, not 10.
        Run s = pit("rods ahead of sluices").go("rod(0, 1, 0)", "sluice(0, 2)", "tide(20, 0, 0)");
        // The SEA at 10, 15, 20, 15, 10, 5; SURFACE 1, 2, 5, 7, 9, 9 when the SLUICE runs.
        s.due("count(6)", 10 * 75 + 5 * (9 + 13 + 15 + 8 + 1)).due("count(7)", 5 * 4);
    }

    private static void eachRodGives() {
        // Two banks of one CELL, 2 and 1 below the SEA of the third HOUR.
        Run r = Run.of("(2) Each ROD, by numbers: where SEA is above HEIGHT its CELL gets 10 times how far; then it wears or BREAKS.");
        r.go("level(1, 60)", "level(6, 60)", "rod(0, 1, 38)", "rod(0, 1, 39)", "rod(29, 0, 40)", "tide(40, 2, 0)");
        r.due("cell(0, 1)", 30).due("count(6)", 30).due("about(0, 2)", 38).due("about(1, 2)", 39).due("about(2, 2)", 37);
    }

    private static void eachSluiceByRods() {
        // The SEA at 2, 3, 4, 3, 2, 1. The second one sees what the first left: in the fourth HOUR 15, then 10.
        Run.of("(3) Each SLUICE, by RODS: SURFACE of the CELL above SEA, and it is open or by the tide");
        Run r = pit("two open ones").go("rod(0, 1, 99)", "rod(0, 1, 99)", "sluice(0, 2)", "sluice(1, 2)", "tide(4, 0, 0)");
        r.due("cell(0, 1)", 20 + 30 + 40 + (15 + 10) + (5 + 5)).due("count(6)", 125);
        // Then the SEA at 0: 5 from each of them, and 5, 5, 5, 5, till 99 and less are left: 100 has a SURFACE of 1, 95 none.
        r.due("tide(0, 0, 0)", 0).due("cell(0, 1)", 95).due("count(7)", 30);
        // One of them open and one by the tide: what comes in comes by the open one alone.
        Run s = pit("open and by the tide").go("rod(0, 1, 99)", "rod(0, 1, 99)", "sluice(0, 3)", "sluice(1, 2)", "tide(8, 0, 0)");
        s.due("cell(0, 1)", 140).due("count(7)", 0);
    }

    private static void herdsComeLast() {
        // 300 come at once over two banks; 75, then 56 go on ahead of the HERD's turn, so it stays at 169.
        Run r = Run.of("(5) HERDS (see 3).").go("rod(0, 1, 85)", "rod(0, 1, 85)", "herd(0)", "tide(100, 0, 0)");
        r.due("cell(0, 3)", 169).due("where(0)", 0);
        // 380 come: 95, then 71 go on and 214 are left, so it goes; by then CELL 1 has 54 and CELL 6 has 44.
        Run s = new Run("herds behind what spreads").go("rod(0, 1, 85)", "rod(0, 1, 85)", "herd(0)", "tide(104, 0, 0)");
        s.due("count(6)", 380).due("cell(0, 3)", 214).due("where(0)", 6);
    }

    private static void cameAndWent() {
        Run r = Run.of("CAME: all RAIN and SEA that came to CELLS so far; WENT: all that went out.");
        r.go("level(1, 60)", "level(6, 60)", "rod(0, 1, 99)", "rod(29, 1, 39)", "sluice(0, 2)", "tide(8, 0, 0)").due("count(6)", 140);
        r.go("sluice(0, 0)", "tide(40, 0, 0)").due("count(6)", 150).go("tide(0, 0, 7)").due("count(6)", 1410).due("count(7)", 0).due("count(8)", 1410);
        r.go("sluice(0, 3)", "tide(0, 0, 0)").due("count(6)", 1410);
        long water = r.call("count(8)");
        Run.holds("came and went", "some went out", water < 1410);
        r.due("count(7)", 1410 - water).go("pass(400)", "year()").due("count(6)", 1410).due("count(7)", 1410 - water);
    }

    private static void saltOfEachCell() {
        // 396 all over and 10 of the SEA: CELL 0 has a PEAK of 402, the others far from it 396.
        Run r = Run.of("SALT: behind a TIDE by which SEA came to any CELL each CELL has so many years as PEAK by 200, cut, 9 at most, if that is more than it has");
        r.go("rod(0, 1, 39)", "tide(0, 0, 50)", "tide(0, 0, 16)").due("cell(0, 4)", 0).go("tide(40, 0, 0)").due("cell(0, 4)", 2).due("cell(29, 4)", 1);
    }

    private static void yearTakesOne() {
        Run r = Run.of("A YEAR takes 1 from each.").go("rod(0, 1, 39)", "tide(0, 0, 50)", "tide(0, 0, 16)", "tide(40, 0, 0)");
        r.due("cell(0, 4)", 2).due("cell(20, 4)", 1).due("year()", 1).due("cell(0, 4)", 1).due("cell(20, 4)", 0);
        // None has less than none, and a YEAR is no DAY.
        r.due("year()", 0).due("cell(0, 4)", 0).due("cell(20, 4)", 0).due("count(0)", 3);
    }

    // ---- 3 herds

    private static void theWay() {
        Run r = Run.of("THE WAY of a HERD to LEVEL n: the fewest moves through open GATES to a CELL of LEVEL n or more");
        r.go("herd(14)", "herd(0)", "level(2, 7)", "level(17, 9)").due("way(0, 7, 0)", 2).due("way(0, 7, 1)", 2).due("way(0, 8, 0)", 3).due("way(0, 8, 1)", 17);
        // From where each HERD is, and nothing is moved by the asking.
        r.due("way(1, 7, 0)", 2).due("way(1, 7, 1)", 2).due("way(1, 8, 0)", 7).due("where(0)", 14).due("where(1)", 0).due("drive(0, 8)", 14).due("way(0, 7, 0)", 1);
    }

    private static void aheadAndBehindTheGate() {
        Run r = Run.of("there is none: what 0 -100 less the CELL ahead of THE GATE, 1 -100 less the CELL behind it");
        r.go("herd(11)", "level(9, 5)", "gate(8, 9, 0)", "gate(9, 10, 0)", "gate(3, 9, 0)", "gate(9, 15, 0)").due("way(0, 5, 0)", -110).due("way(0, 5, 1)", -109);
        r.due("drive(0, 5)", 11).due("drive(0, 4)", 5).due("drive(0, 3)", 4).due("way(0, 5, 0)", -103).due("way(0, 5, 1)", -109);
        r.go("gate(15, 9, 1)").due("way(0, 5, 0)", 5).due("way(0, 5, 1)", 9);
    }

    // ---- 4 customs

    private static void readFromTheTape() {
        Run r = Run.of("A CUSTOM is read from THE TAPE (bytes, 160 at most): CLAUSES, 10 at most, with ; between").go("rod(0, 0, 0)");
        String text = "r 0-0 own 6;h 12;f 345;v 67;s 890";
        // It does not matter in what pieces it comes.
        for (int size = 1; size <= 8; size++) {
            for (int from = 0; from < text.length(); from += size) {
                int to = Math.min(text.length(), from + size);
                r.due("feed(" + word(text.substring(from, to)) + ", " + (to - from) + ")", to);
            }
            r.due("court(" + size + ")", size - 1).due("custom(" + size + ", " + size + ", 0)", size - 1).due("custom(" + size + ", " + size + ", 1)", 12);
            r.due("custom(" + size + ", " + size + ", 2)", 345).due("custom(" + size + ", " + size + ", 3)", 67).due("custom(" + size + ", " + size + ", 4)", 890);
            r.due("mender(0, " + size + ", " + size + ", 0)", 6);
        }
    }

    /** The text in the lowest bytes, with other bytes above them that must not matter. */
    private static long word(String text) {
        long w = -1;
        for (char sign : text.toCharArray()) {
            w = w << 8 | sign;
        }
        return w;
    }

    private static void menderByEachKind() {
        Run r = Run.of("MENDER of a ROD on a DAY (as was known behind so many COURTS and SALES): front: the OWNER with the most PARTS of its CELL (of several the least); own n: n; acres:");
        r.go("rod(9, 0, 0)", "rod(9, 0, 0)", "rod(9, 0, 0)", "rod(9, 0, 0)", "sell(9, 0, 5, 8, 0)").custom("r 0-0 front;r 1-1 own 3;r 2-2 acres", 0);
        r.due("mender(0, 0, 1, 1)", 5).due("mender(1, 0, 1, 1)", 3).due("mender(2, 0, 1, 1)", 0).due("mender(3, 0, 1, 1)", COMMON);
    }

    private static void acresInOrder() {
        Run r = Run.of("acres: RODS a to b (all these numbers) are dealt in order: OWNER 0 gets the first ones, then OWNER 1, ..");
        for (int rod = 0; rod < 24; rod++) {
            r.go("rod(" + rod + ", 0, 0)");
        }
        // A third each for OWNERS 0, 3 and 5, whatever CELLS the RODS are ahead of.
        for (int cell = 0; cell < 20; cell++) {
            r.go("sell(" + cell + ", 0, " + (cell < 10 ? 5 : 3) + ", 12, 0)");
        }
        r.custom("r 0-23 acres", 0).custom("r 6-11 acres", 0);
        int[] owners = {0, 3, 5};
        for (int rod = 0; rod < 24; rod++) {
            r.due("mender(" + rod + ", 0, 1, 20)", owners[rod / 8]);
            r.due("mender(" + rod + ", 0, 2, 20)", rod >= 6 && rod <= 11 ? owners[(rod - 6) / 2] : COMMON);
        }
    }

    // ---- 5 views, works, scots

    private static void fineUpToItsEnd() {
        Run r = Run.of("FINE: f of THE CUSTOM as it was at the VIEW for each DAY from the VIEW to when it ends: it is MENDED to h of then or more, or viewed again.");
        r.go("rod(0, 0, 4)").custom("h 9;f 30;r 0-0 own 2", 0).go("pass(7)").due("view(0)", 5).go("pass(2)").due("fines(2)", 60).due("view(0)", 5);
        r.due("fault(0, 3)", 0).go("pass(3)").due("fault(0, 3)", 90).due("fines(2)", 150).due("mend(0, 6, 5)", 9).go("pass(50)").due("fines(2)", 150).due("fines(6)", 0);
    }

    private static void toMend() {
        Run r = Run.of("TO MEND: an OWNER makes a ROD n higher (99 at most).").go("rod(0, 0, 10)", "rod(0, 0, 10)");
        r.due("mend(0, 4, 7)", 17).due("about(0, 2)", 17).due("about(1, 2)", 10).due("mended(4)", 7).due("about(0, 5)", 0).due("count(0)", 0);
    }

    private static void scotsComeOutWhole() {
        Run r = Run.of("SCOTS: a sum is laid on OWNERS by the PARTS that they HELD of all CELLS (on DAY now, all known): sum times PARTS by 360, cut");
        int[] parts = {0, 1, 5, 11, 2, 7, 12, 3};
        for (int owner = 1; owner < 8; owner++) {
            r.go("sell(" + owner + ", 0, " + owner + ", " + parts[owner] + ", 0)", "sell(29, 0, " + owner + ", 1, 0)");
        }
        for (int sum : new int[] {0, 1, 2, 3, 7, 8, 59, 100, 359, 360, 361, 999, 12345, 99999, 100000}) {
            long all = 0;
            for (int owner = 0; owner < 8; owner++) {
                long held = r.call("held(-1, " + owner + ", 0, 14)");
                long share = r.call("scot(" + sum + ", " + owner + ")");
                long cut = sum * held / 360;
                Run.holds("scots", share + " of " + sum + " for " + held + " parts", share == cut || share == cut + 1);
                all += share;
            }
            Run.equal("scots that come out whole", "the shares of " + sum, all, sum);
        }
    }

    // ---- promises

    private static void oneSale() {
        Run r = Run.of("A SALE: how many there are. NONE; BAD: parts, day, one OWNER; STATE: somebody would have less than 0; FULL.");
        r.due("sell(4, 0, 1, 5, 3)", 1).due("sell(4, 1, 2, 6, 3)", STATE).due("sell(4, 1, 2, 5, 3)", 2).due("sell(4, 1, 2, 1, 3)", STATE).due("sell(4, 2, 2, 1, 3)", BAD);
        r.due("count(2)", 2).due("held(4, 0, 3, 2)", 7).due("held(4, 1, 3, 2)", 0).due("held(4, 2, 3, 2)", 5).due("held(4, 2, 2, 2)", 0).due("sell(4, 0, 9, 1, 3)", NONE);
        for (int i = 3; i <= 120; i++) {
            r.due(i % 2 == 1 ? "sell(4, 2, 3, 5, 3)" : "sell(4, 3, 2, 5, 3)", i);
        }
        r.due("sell(4, 2, 3, 5, 3)", FULL);
    }

    private static void aboutRods() {
        Run r = Run.of("Of a ROD what 0 CELL, 1 KIND, 2 HEIGHT, 3 SLUICE, 4 how often it BROKE, 5 how much it wore in all (what BREAKING took, too)");
        // The SEA at 30, 45, 60, 45, 30, 15. EARTH: 4 by the wear, 18, 9, 5 by BREAKING, the last 4 by the wear. STONE: 14, then 2.
        r.go("rod(3, 0, 40)", "rod(29, 1, 40)", "sluice(1, 1)").due("tide(60, 3, 0)", 2);
        int[][] due = {{3, 0, 0, 0, 3, 40}, {29, 1, 24, 1, 1, 16}};
        for (int what = 0; what <= 5; what++) {
            r.due("about(0, " + what + ")", due[0][what]).due("about(1, " + what + ")", due[1][what]);
        }
        // What is mended is worn all the same.
        r.go("mend(0, 0, 99)", "mend(1, 0, 16)").due("about(0, 5)", 40).due("about(1, 5)", 16).due("tide(60, 3, 0)", 1).due("about(1, 5)", 32).due("about(1, 4)", 2);
    }
}
