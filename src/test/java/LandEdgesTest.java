/** The boundary cases of section 1 of the document and of promises 2 to 5, one test for each sentence. */
public final class LandEdgesTest {
    private static final int NONE = MarshCourt.NONE, BAD = MarshCourt.BAD, STATE = MarshCourt.STATE, FULL = MarshCourt.FULL;

    public static void main(String[] args) {
        cells();
        cellWhats();
        levels();
        levelAtFirst();
        water();
        surface();
        neighbours();
        drivingToNeighbours();
        dayAtFirst();
        partsAtFirst();
        owners();
        saleParts();
        saleDays();
        salesOnPastDays();
        saleToAnother();
        saleNumber();
        fullAheadOfState();
        fullBehindBad();
        heldOnDays();
        heldAsKnown();
        heldOfAll();
        heldRefusals();
        lessThanNothing();
        lessThanNothingLater();
        lessThanNothingOnTheDay();
        whoBuysHelpsNobodyEarlier();
        otherCellsDoNotHelp();
        Run.finish();
    }

    private static void cells() {
        Run r = Run.of("29 lie in 5 rows of 6 (CELL 6 row and column)").go("herd(1)");
        r.due("level(0, 9)", 0).due("level(29, 9)", 0).outside("level(#, 9)", NONE, 0, 29);
        r.due("cell(0, 0)", 9).due("cell(29, 0)", 9).outside("cell(#, 0)", NONE, 0, 29);
        r.due("sell(0, 0, 1, 1, 0)", 1).due("sell(29, 0, 1, 1, 0)", 2).outside("sell(#, 0, 1, 1, 0)", NONE, 0, 29);
        r.due("held(0, 1, 0, 2)", 1).due("held(29, 1, 0, 2)", 1).outside("held(#, 1, 0, 2)", NONE, -1, 29);
        r.due("rod(0, 0, 5)", 0).due("rod(29, 0, 5)", 1).outside("rod(#, 0, 5)", NONE, 0, 29);
        r.due("gate(0, 1, 1)", 1).due("gate(29, 28, 1)", 1).outside("gate(#, 1, 1)", NONE, 0, 29);
        r.due("gate(6, 0, 1)", 1).due("gate(23, 29, 1)", 1).outside("gate(28, #, 1)", NONE, 0, 29);
        r.due("herd(0)", 1).due("herd(29)", 2).outside("herd(#)", NONE, 0, 29);
        r.due("drive(0, 0)", 1).due("drive(2, 28)", 29).due("drive(2, 29)", 28).outside("drive(2, #)", NONE, 0, 29);
        r.due("count(1)", 2).due("count(2)", 2).due("count(4)", 3);
    }

    private static void cellWhats() {
        Run r = Run.of("Of a CELL what 0 LEVEL, 1 WATER, 2 SURFACE, 3 PEAK of the latest TIDE, 4 SALT. NONE.");
        r.go("level(0, 7)").due("cell(0, 0)", 7).due("cell(0, 4)", 0).outside("cell(0, #)", NONE, 0, 4);
        r.due("cell(30, 5)", NONE).due("cell(-1, -1)", NONE);
    }

    private static void levels() {
        Run r = Run.of("LEVEL of a CELL: what it was. NONE; BAD.");
        r.due("level(5, 0)", 0).due("level(5, 60)", 0).due("level(5, 59)", 60).due("level(5, 1)", 59);
        r.outside("level(5, #)", BAD, 0, 60).due("level(30, 61)", NONE).due("level(-1, -1)", NONE).due("cell(5, 0)", 1);
    }

    private static void levelAtFirst() {
        Run r = Run.of("each has a LEVEL (0 .. 60, 0 at first) and WATER (0 at first; 100 of it stand 1 high)");
        for (int cell = 0; cell < 30; cell++) {
            r.due("cell(" + cell + ", 0)", 0).due("cell(" + cell + ", 1)", 0).due("cell(" + cell + ", 2)", 0);
            r.due("cell(" + cell + ", 3)", 0).due("cell(" + cell + ", 4)", 0);
        }
    }

    /** CELL 0 as a pit: rain brings it 18 times as much as RAIN says, the SEA 5 for each 1 by which it is above. */
    private static Run pit(Run r) {
        return r.go("level(1, 60)", "level(6, 60)", "rod(0, 1, 99)", "sluice(0, 2)");
    }

    private static void water() {
        Run r = pit(Run.of("100 of it stand 1 high")).go("tide(0, 0, 3)");
        for (int i = 0; i < 9; i++) {
            r.go("tide(1, 0, 0)");
        }
        r.due("cell(0, 1)", 99).due("cell(0, 2)", 0);
        // The SEA comes over a bank, 1 above it in one HOUR of each TIDE: 10 each.
        Run s = new Run("100 of it").go("level(1, 60)", "level(6, 60)", "rod(0, 1, 39)");
        for (int i = 0; i < 10; i++) {
            s.due("cell(0, 2)", 0).go("tide(40, 0, 0)");
        }
        s.due("cell(0, 1)", 100).due("cell(0, 2)", 1);
    }

    private static void surface() {
        Run r = pit(Run.of("SURFACE: LEVEL and WATER by 100, cut.")).go("tide(4, 0, 3)", "tide(6, 0, 0)");
        r.due("cell(0, 1)", 199).due("cell(0, 2)", 1).go("level(0, 60)").due("cell(0, 2)", 61);
        Run s = pit(new Run("surface of 200")).go("tide(4, 0, 0)", "tide(8, 0, 0)");
        s.due("cell(0, 1)", 200).due("cell(0, 2)", 2).go("level(0, 59)").due("cell(0, 2)", 61);
        Run t = new Run("surface of land alone").go("level(0, 60)").due("cell(0, 2)", 60);
    }

    private static boolean beside(int a, int b) {
        int rows = Math.abs(a / 6 - b / 6);
        int columns = Math.abs(a % 6 - b % 6);
        return rows + columns == 1;
    }

    private static void neighbours() {
        Run[] halves = {Run.of("NEIGHBOURS: left, right, above, below."), new Run("neighbours, the upper half")};
        for (int a = 0; a < 30; a++) {
            for (int b = 0; b < 30; b++) {
                halves[a / 15].due("gate(" + a + ", " + b + ", 1)", beside(a, b) ? 1 : BAD);
            }
        }
    }

    private static void drivingToNeighbours() {
        for (int from = 0; from < 30; from++) {
            Run r = new Run("driven from " + from).go("herd(" + from + ")");
            for (int to = 0; to < 30; to++) {
                r.due("drive(0, " + to + ")", beside(from, to) ? from : BAD);
                if (beside(from, to)) {
                    r.due("drive(0, " + from + ")", to);
                }
            }
        }
    }

    private static void dayAtFirst() {
        Run r = Run.of("DAY is 0 at first; each TIDE makes it 1 more, and PASS so many.").due("count(0)", 0);
        r.go("tide(0, 0, 0)").due("count(0)", 1).go("tide(120, 3, 50)").due("count(0)", 2).due("pass(1)", 3);
        r.due("pass(400)", 403).due("count(0)", 403).due("year()", 0).due("count(0)", 403);
    }

    private static void partsAtFirst() {
        Run r = Run.of("Each CELL has 12 PARTS, all of OWNER 0 at first; OWNERS 0 .. 7.");
        for (int cell = 0; cell < 30; cell++) {
            for (int owner = 0; owner < 8; owner++) {
                r.due("held(" + cell + ", " + owner + ", " + (owner % 2 == 0 ? 0 : 9999) + ", 0)", owner == 0 ? 12 : 0);
            }
        }
    }

    private static void owners() {
        Run r = Run.of("OWNERS 0 .. 7").go("rod(0, 0, 5)");
        r.due("sell(0, 0, 7, 2, 0)", 1).due("sell(0, 7, 0, 1, 0)", 2);
        r.outside("sell(0, #, 3, 1, 0)", NONE, 0, 7).outside("sell(0, 0, #, 1, 0)", NONE, 0, 7);
        r.due("held(0, 0, 0, 2)", 11).due("held(0, 7, 0, 2)", 1).outside("held(0, #, 0, 2)", NONE, 0, 7);
        r.due("mend(0, 0, 1)", 6).due("mend(0, 7, 1)", 7).outside("mend(0, #, 1)", NONE, 0, 7);
        r.due("fines(0)", 0).due("fines(7)", 0).outside("fines(#)", NONE, 0, 7);
        r.due("mended(0)", 1).due("mended(7)", 1).outside("mended(#)", NONE, 0, 7);
        r.due("scot(360, 0)", 359).due("scot(360, 7)", 1).outside("scot(360, #)", NONE, 0, 7);
    }

    private static void saleParts() {
        Run r = Run.of("A SALE: so many PARTS (1 .. 12) of a CELL");
        r.due("sell(0, 0, 1, 1, 0)", 1).due("sell(1, 0, 1, 12, 0)", 2).outside("sell(2, 0, 1, #, 0)", BAD, 1, 12);
        r.due("count(2)", 2).due("held(2, 0, 0, 2)", 12).due("held(1, 1, 0, 2)", 12).due("held(0, 1, 0, 2)", 1);
    }

    private static void saleDays() {
        Run r = Run.of("on a DAY (0 .. 9999, past ones, too)");
        r.due("sell(0, 0, 1, 1, 0)", 1).due("sell(0, 0, 1, 1, 9999)", 2).outside("sell(0, 0, 1, 1, #)", BAD, 0, 9999);
        r.due("count(2)", 2).due("held(0, 1, 0, 2)", 1).due("held(0, 1, 9998, 2)", 1).due("held(0, 1, 9999, 2)", 2);
    }

    private static void salesOnPastDays() {
        Run r = new Run("past ones, too").go("pass(100)").due("sell(0, 0, 1, 2, 0)", 1).due("sell(0, 0, 1, 2, 99)", 2);
        r.due("sell(0, 0, 1, 2, 100)", 3).due("sell(0, 0, 1, 2, 101)", 4).due("held(0, 1, 99, 4)", 4).due("held(0, 1, 100, 4)", 6);
    }

    private static void saleToAnother() {
        Run r = Run.of("go from an OWNER to another one");
        for (int owner = 0; owner < 8; owner++) {
            r.due("sell(0, " + owner + ", " + owner + ", 1, 0)", BAD);
        }
        r.due("sell(0, 8, 8, 1, 0)", NONE).due("sell(30, 0, 0, 1, 0)", NONE).due("sell(0, 0, 1, 1, 0)", 1).due("count(2)", 1);
    }

    private static Run with120Sales(Run r) {
        for (int i = 0; i < 119; i++) {
            r.due("sell(" + i / 4 + ", 0, 1, 3, 0)", i + 1);
        }
        return r.due("count(2)", 119).due("sell(29, 0, 1, 3, 0)", 120).due("count(2)", 120);
    }

    private static void saleNumber() {
        Run r = with120Sales(Run.of("120 SALES at most, entered one by one."));
        r.due("sell(29, 1, 0, 1, 0)", FULL).due("count(2)", 120).due("held(29, 1, 0, 120)", 12).due("held(29, 1, 0, 119)", 9);
        r.due("held(29, 1, 0, 121)", NONE).due("scot(360, 1)", 360);
    }

    private static void fullAheadOfState() {
        with120Sales(Run.of("(FULL ahead of STATE.)")).due("sell(0, 0, 1, 1, 0)", FULL).due("sell(0, 5, 1, 12, 0)", FULL);
    }

    private static void fullBehindBad() {
        Run r = with120Sales(Run.of("A SALE: how many there are. NONE; BAD: parts, day, one OWNER; STATE"));
        r.due("sell(0, 1, 0, 0, 0)", BAD).due("sell(0, 1, 0, 13, 0)", BAD).due("sell(0, 1, 0, 1, -1)", BAD);
        r.due("sell(0, 1, 0, 1, 10000)", BAD).due("sell(0, 1, 1, 1, 0)", BAD).due("sell(30, 1, 0, 1, 0)", NONE);
        r.due("sell(0, 8, 0, 1, 0)", NONE).due("sell(0, 1, 8, 1, 0)", NONE).due("sell(0, 8, 8, 0, -1)", NONE);
    }

    private static void heldOnDays() {
        Run r = Run.of("by those of the first so many with that DAY or less").go("sell(3, 0, 2, 5, 10)", "sell(3, 2, 6, 2, 12)");
        r.due("held(3, 2, 9, 2)", 0).due("held(3, 2, 10, 2)", 5).due("held(3, 2, 11, 2)", 5).due("held(3, 2, 12, 2)", 3);
        r.due("held(3, 6, 11, 2)", 0).due("held(3, 6, 12, 2)", 2).due("held(3, 0, 9, 2)", 12).due("held(3, 0, 10, 2)", 7);
        r.due("held(3, 2, 0, 2)", 0).due("held(3, 2, 9999, 2)", 3);
    }

    private static void heldAsKnown() {
        Run r = Run.of("HELD on a DAY as was known behind so many SALES").due("held(3, 0, 50, 0)", 12).due("held(3, 0, 50, 1)", NONE);
        r.go("sell(3, 0, 2, 5, 10)").due("held(3, 2, 50, 0)", 0).due("held(3, 2, 50, 1)", 5).due("held(3, 2, 50, 2)", NONE);
        // Entered later, for an earlier DAY: not known behind one SALE.
        r.go("sell(3, 0, 2, 1, 5)").due("held(3, 2, 50, 1)", 5).due("held(3, 2, 50, 2)", 6).due("held(3, 2, 5, 1)", 0);
        r.due("held(3, 2, 5, 2)", 1).due("held(3, 2, 50, 3)", NONE).due("held(3, 2, 50, -1)", NONE);
    }

    private static void heldOfAll() {
        Run r = Run.of("HELD by an OWNER of a CELL (-1: of all CELLS) on a DAY as was known. NONE: known, too; BAD: day.");
        r.due("held(-1, 0, 0, 0)", 360).due("held(-1, 7, 9999, 0)", 0).go("sell(0, 0, 7, 12, 3)", "sell(29, 0, 7, 11, 4)");
        r.due("held(-1, 7, 2, 2)", 0).due("held(-1, 7, 3, 2)", 12).due("held(-1, 7, 4, 2)", 23).due("held(-1, 7, 4, 1)", 12);
        r.due("held(-1, 0, 4, 2)", 337).due("held(-2, 7, 4, 2)", NONE);
    }

    private static void heldRefusals() {
        Run r = new Run("NONE: known, too; BAD: day.").go("sell(0, 0, 1, 1, 0)");
        r.due("held(0, 0, 0, 0)", 12).due("held(0, 0, 9999, 1)", 11).outside("held(0, 0, 0, #)", NONE, 0, 1);
        r.outside("held(0, 0, #, 1)", BAD, 0, 9999).outside("held(-1, 0, #, 1)", BAD, 0, 9999);
        r.due("held(30, 0, -1, 0)", NONE).due("held(0, 8, -1, 0)", NONE).due("held(0, 0, -1, 2)", NONE).due("held(-2, 0, 10000, 0)", NONE);
    }

    private static void lessThanNothing() {
        Run r = Run.of("A SALE is refused if somebody would have less than 0 of the CELL on some DAY by all SALES then.");
        r.due("sell(0, 0, 1, 11, 5)", 1).due("sell(0, 0, 1, 2, 5)", STATE).due("sell(0, 0, 1, 1, 5)", 2).due("held(0, 0, 5, 2)", 0);
        r.due("sell(0, 0, 1, 1, 5)", STATE).due("sell(0, 1, 2, 12, 5)", 3).due("sell(0, 1, 2, 1, 9999)", STATE).due("count(2)", 3);
        r.due("sell(0, 7, 2, 1, 5)", STATE);
    }

    private static void lessThanNothingLater() {
        // OWNER 0 has 12 up to DAY 99 and 4 from DAY 100 on.
        Run r = new Run("on some DAY: a later one").go("sell(0, 0, 1, 8, 100)").due("sell(0, 0, 2, 5, 0)", STATE);
        r.due("sell(0, 0, 2, 5, 99)", STATE).due("sell(0, 0, 2, 5, 100)", STATE).due("sell(0, 0, 2, 4, 99)", 2);
        r.due("sell(0, 0, 2, 1, 98)", STATE).due("sell(0, 0, 2, 1, 9999)", STATE);
        // DAY 9999 is one, too.
        Run s = new Run("on some DAY: the last one").go("sell(0, 0, 1, 12, 9999)").due("sell(0, 0, 2, 1, 0)", STATE);
        s.due("sell(0, 1, 2, 12, 9999)", 2).due("sell(0, 0, 2, 1, 9998)", STATE);
    }

    private static void lessThanNothingOnTheDay() {
        // Of one DAY all SALES count together, in whatever order they were entered.
        Run r = new Run("by all SALES then").due("sell(0, 1, 2, 5, 10)", STATE).go("sell(0, 0, 1, 5, 10)");
        r.due("sell(0, 1, 2, 5, 9)", STATE).due("sell(0, 1, 2, 5, 10)", 2).due("held(0, 2, 10, 2)", 5).due("held(0, 1, 10, 2)", 0);
        r.due("sell(0, 2, 3, 5, 10)", 3).due("sell(0, 2, 3, 1, 10)", STATE).due("sell(0, 3, 0, 5, 10)", 4).due("held(0, 0, 10, 4)", 12);
        // What comes back on the DAY itself helps on that DAY, not on the one ahead of it.
        Run s = new Run("comes back").go("sell(0, 0, 1, 12, 10)", "sell(0, 1, 0, 3, 20)");
        s.due("sell(0, 0, 2, 3, 19)", STATE).due("sell(0, 0, 2, 4, 20)", STATE).due("sell(0, 0, 2, 3, 20)", 3);
        // It comes back between two DAYS: the hole between counts.
        Run t = new Run("a hole").go("sell(0, 0, 1, 12, 10)", "sell(0, 1, 0, 12, 11)").due("sell(0, 0, 2, 1, 9)", STATE);
        t.due("sell(0, 0, 2, 1, 10)", STATE).due("sell(0, 0, 2, 1, 11)", 3);
    }

    private static void whoBuysHelpsNobodyEarlier() {
        Run r = new Run("bought later").go("sell(0, 0, 1, 6, 50)").due("sell(0, 1, 2, 6, 49)", STATE).due("sell(0, 1, 2, 7, 50)", STATE);
        r.due("sell(0, 1, 2, 6, 51)", 2).due("sell(0, 1, 3, 1, 50)", STATE).due("sell(0, 2, 1, 6, 50)", STATE).due("sell(0, 2, 1, 6, 51)", 3);
    }

    private static void otherCellsDoNotHelp() {
        Run r = new Run("of the CELL").go("sell(1, 0, 3, 12, 0)").due("sell(0, 3, 4, 1, 0)", STATE).due("sell(2, 3, 4, 1, 0)", STATE);
        r.due("sell(1, 3, 4, 12, 0)", 2).due("sell(0, 0, 4, 12, 0)", 3).due("sell(1, 0, 4, 1, 0)", STATE);
    }
}
