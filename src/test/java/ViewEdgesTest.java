/** The boundary cases of section 5 of the document and of promises 21 to 28, one test for each sentence. */
public final class ViewEdgesTest {
    private static final int NONE = MarshCourt.NONE, BAD = MarshCourt.BAD, FULL = MarshCourt.FULL;

    public static void main(String[] args) {
        belowH();
        noCustomNoFault();
        customNow();
        endsTheFault();
        menderNow();
        fineByDays();
        fineAtTheView();
        mendedToH();
        hOfThen();
        common();
        sixtyFaults();
        sixtyOfManyRods();
        fullOnlyForFaults();
        mendNumbers();
        mendTo99();
        mendedInAll();
        dueDays();
        dueSinceView();
        dueByTheCustomNow();
        dueWithoutCustom();
        faultWhats();
        finesNumbers();
        finesOfEndedOnes();
        finesModulo();
        fineOfALongTime();
        worksHands();
        worksBelowH();
        worksNeed();
        worksSideBySide();
        worksRows();
        worksCellsBelowH();
        worksLeastSet();
        worksRefusals();
        scotSums();
        scotCut();
        scotRemainders();
        scotNow();
        counts();
        countTape();
        Run.finish();
    }

    // ---- VIEWS, FAULTS, FINES

    private static void belowH() {
        Run r = Run.of("it is a FAULT if HEIGHT is below h of THE CUSTOM (now, all known)").go("rod(0, 0, 49)", "rod(0, 0, 50)", "rod(0, 0, 51)", "rod(0, 0, 0)");
        r.custom("h 50", 0).due("view(0)", 1).due("view(1)", 0).due("view(2)", 0).due("view(3)", 50).due("count(5)", 2);
        r.due("fault(0, 2)", 1).due("fault(1, 2)", NONE).due("fault(2, 2)", NONE).due("fault(3, 2)", 50);
        // The greatest h and the least.
        Run s = new Run("h 99 and h 0").go("rod(0, 0, 98)", "rod(0, 0, 99)", "rod(0, 0, 0)").custom("h 99", 0).due("view(0)", 1).due("view(1)", 0).due("view(2)", 99);
        s.custom("h 0", 0).due("view(2)", 0).due("view(0)", 0).due("count(5)", 0).custom("h 1", 0).due("view(2)", 1);
    }

    private static void noCustomNoFault() {
        Run r = new Run("no custom").go("rod(0, 0, 0)").due("view(0)", 0).due("about(0, 6)", 0).due("count(5)", 0).custom("h 9", 1).due("view(0)", 0);
        r.go("pass(1)").due("view(0)", 9).due("about(0, 6)", 1).custom("f 9", 0).due("view(0)", 9).custom("f 9", 1).due("view(0)", 0).due("count(5)", 0);
    }

    private static void customNow() {
        Run r = new Run("the custom now, all known").go("rod(0, 0, 10)", "pass(20)").custom("h 30", 21).due("view(0)", 0).custom("h 12", 20).due("view(0)", 2);
        r.custom("h 40", 19).due("view(0)", 2).custom("h 13", 20).due("view(0)", 3).go("pass(1)").due("view(0)", 20).custom("h 50", 20).due("view(0)", 20);
    }

    private static void endsTheFault() {
        Run r = Run.of("A VIEW of a ROD, now, ends the FAULT that there was").go("rod(0, 0, 10)", "rod(0, 0, 10)").custom("h 12;f 5;r 0-1 own 1", 0);
        r.go("view(0)", "view(1)", "pass(3)").due("count(5)", 2).due("view(0)", 2).due("count(5)", 2).due("fault(0, 1)", 3).due("fault(1, 1)", 0);
        r.due("fault(0, 3)", 0).due("fault(1, 3)", 15).due("fines(1)", 30).custom("h 10", 3).due("view(0)", 0).due("count(5)", 1).due("fault(0, 1)", NONE);
        r.go("pass(1)").due("fines(1)", 35);
    }

    private static void menderNow() {
        Run r = Run.of("that binds the MENDER (as known now)").go("rod(3, 0, 0)", "pass(10)").custom("h 5;f 1;r 0-0 front", 0);
        r.go("sell(3, 0, 6, 12, 11)").due("view(0)", 5).due("fault(0, 0)", 0).go("pass(1)").due("fault(0, 0)", 0).due("view(0)", 5).due("fault(0, 0)", 6);
        // Sales and courts that are known later do not change whom it binds.
        r.go("sell(3, 6, 2, 12, 11)").due("fault(0, 0)", 6).custom("h 5;f 1;r 0-0 own 4", 0).due("fault(0, 0)", 6).custom("h 5;r 0-0 own 4", 11).due("fault(0, 0)", 6);
        r.due("view(0)", 5).due("fault(0, 0)", 4);
    }

    private static void fineByDays() {
        Run r = Run.of("for each DAY from the VIEW to when it ends").go("rod(0, 0, 0)").custom("h 5;f 7;r 0-0 own 3", 0).go("pass(4)", "view(0)");
        r.due("fault(0, 3)", 0).due("fines(3)", 0).go("pass(1)").due("fault(0, 3)", 7).due("fines(3)", 7).go("tide(0, 0, 0)").due("fault(0, 3)", 14);
        r.go("pass(400)").due("fault(0, 3)", 402 * 7).due("fines(3)", 402 * 7).go("mend(0, 0, 5)", "pass(1)").due("fines(3)", 402 * 7);
        // Ended on its own DAY it costs nothing.
        Run s = new Run("ended on its day").go("rod(0, 0, 0)").custom("h 5;f 7;r 0-0 own 3", 0).go("view(0)", "mend(0, 0, 5)", "pass(9)").due("fines(3)", 0);
        // A FINE of 0 and the greatest one.
        Run t = new Run("f 0 and f 999").go("rod(0, 0, 0)").custom("h 5;r 0-0 own 3", 0).go("view(0)", "pass(9)").due("fault(0, 3)", 0).due("fines(3)", 0);
        t.custom("h 5;f 999;r 0-0 own 3", 0).go("view(0)", "pass(1)").due("fault(0, 3)", 999).due("fines(3)", 999);
    }

    private static void fineAtTheView() {
        Run r = Run.of("f of THE CUSTOM as it was at the VIEW").go("rod(0, 0, 0)").custom("h 5;f 7;r 0-0 own 3", 0).go("view(0)").custom("h 5;f 100;r 0-0 own 3", 0);
        r.custom("h 5;f 200;r 0-0 own 3", 2).go("pass(3)").due("fault(0, 3)", 21).due("fines(3)", 21).go("view(0)", "pass(1)").due("fault(0, 3)", 200).due("fines(3)", 221);
    }

    private static void mendedToH() {
        Run r = Run.of("it is MENDED to h of then or more, or viewed again").go("rod(0, 0, 40)", "rod(0, 0, 40)", "rod(0, 0, 40)").custom("h 50;f 1;r 0-2 own 2", 0);
        r.go("view(0)", "view(1)", "view(2)", "mend(0, 5, 9)", "mend(1, 5, 10)", "mend(2, 5, 11)").due("count(5)", 1).due("fault(0, 2)", 10);
        r.due("fault(1, 2)", NONE).due("fault(2, 2)", NONE).go("pass(2)").due("fines(2)", 2).due("mend(0, 6, 1)", 50).due("fault(0, 3)", NONE);
        r.go("pass(2)").due("fines(2)", 2).due("fines(5)", 0).due("fines(6)", 0);
        // Mended and worn again it does not come back without a VIEW.
        r.go("tide(60, 3, 0)").due("count(5)", 0).due("fines(2)", 2);
    }

    private static void hOfThen() {
        // The h that counts is that of the VIEW, as the f is.
        Run r = new Run("h of then, more later").go("rod(0, 0, 40)").custom("h 50", 0).go("view(0)").custom("h 60", 0).due("mend(0, 0, 9)", 49).due("count(5)", 1);
        r.due("mend(0, 0, 1)", 50).due("count(5)", 0);
        Run s = new Run("h of then, less later").go("rod(0, 0, 40)").custom("h 50", 0).go("view(0)").custom("h 45", 0).due("mend(0, 0, 9)", 49).due("count(5)", 1);
        s.due("mend(0, 0, 1)", 50).due("count(5)", 0);
    }

    private static void common() {
        Run r = Run.of("COMMON ones bind nobody.").go("rod(0, 0, 0)").custom("h 9;f 9", 0).due("view(0)", 9).due("fault(0, 0)", -5).go("pass(9)");
        for (int owner = 0; owner < 8; owner++) {
            r.due("fines(" + owner + ")", 0);
        }
        r.due("count(5)", 1).due("fault(0, 3)", 81).due("mend(0, 3, 9)", 9).due("count(5)", 0);
    }

    private static void sixtyFaults() {
        Run r = Run.of("60 FAULTS at most in all.").go("rod(0, 0, 0)").custom("h 9;f 1;r 0-0 own 1", 0);
        for (int i = 1; i <= 59; i++) {
            r.due("view(0)", 9);
        }
        r.go("pass(2)").due("view(0)", 9).due("about(0, 6)", 2).go("pass(3)").due("view(0)", FULL).due("about(0, 6)", 2).due("fault(0, 1)", 2);
        r.due("fault(0, 3)", 3).due("fines(1)", 5).due("count(5)", 1).due("view(1)", NONE).due("view(-1)", NONE);
        // Those that ended count, too.
        r.go("mend(0, 0, 9)").due("count(5)", 0).custom("h 10", 0).due("view(0)", FULL).due("count(5)", 0).due("about(0, 6)", 2);
    }

    private static void sixtyOfManyRods() {
        Run r = new Run("60 of many rods");
        for (int rod = 0; rod < 24; rod++) {
            r.go("rod(0, 0, " + rod + ")");
        }
        r.custom("h 24;f 2;r 0-23 own 7", 0);
        for (int i = 0; i < 60; i++) {
            r.due("view(" + i % 24 + ")", 24 - i % 24);
        }
        r.due("count(5)", 24).each("view(#)", FULL, 0, 11, 12, 23).go("pass(1)").due("fines(7)", 48).due("fault(23, 2)", 1).due("fault(0, 2)", 24);
    }

    private static void fullOnlyForFaults() {
        Run r = Run.of("A VIEW: by how much it is below h (0: no FAULT). NONE; FULL.").go("rod(0, 0, 0)", "rod(0, 0, 9)", "rod(0, 0, 8)").custom("h 9", 0);
        for (int i = 0; i < 60; i++) {
            r.due("view(0)", 9);
        }
        r.go("pass(1)").due("view(1)", 0).due("about(1, 6)", 1).due("view(2)", FULL).due("about(2, 6)", NONE).due("view(3)", NONE);
        // A VIEW that finds no FAULT more ends the one that there was.
        r.custom("h 0", 0).due("view(0)", 0).due("count(5)", 0).due("about(0, 6)", 1);
    }

    // ---- MENDING, DUE

    private static void mendNumbers() {
        Run r = Run.of("TO MEND: HEIGHT then. NONE; BAD: n not 1 .. 99, or HEIGHT would be above 99.").go("rod(0, 0, 0)", "rod(0, 0, 0)");
        r.due("mend(0, 0, 1)", 1).due("mend(1, 7, 99)", 99).outside("mend(0, 0, #)", BAD, 1, 99).due("mend(0, 0, 0)", BAD).due("about(0, 2)", 1);
        r.due("mend(2, 0, 0)", NONE).due("mend(0, 8, 0)", NONE).due("mend(2, 8, 100)", NONE).due("mend(-1, -1, 0)", NONE).due("mended(0)", 1);
    }

    private static void mendTo99() {
        Run r = Run.of("an OWNER makes a ROD n higher (99 at most)").go("rod(0, 0, 50)").due("mend(0, 0, 50)", BAD).due("mend(0, 0, 49)", 99).due("mend(0, 0, 1)", BAD);
        r.due("mend(0, 0, 99)", BAD).due("about(0, 2)", 99).due("mended(0)", 49);
        Run s = new Run("1 of 98").go("rod(0, 1, 98)").due("mend(0, 3, 2)", BAD).due("mend(0, 3, 1)", 99);
    }

    private static void mendedInAll() {
        Run r = Run.of("How much an OWNER MENDED in all. NONE.").go("rod(0, 0, 0)", "rod(1, 1, 0)").due("mended(0)", 0).due("mended(7)", 0);
        r.go("mend(0, 7, 40)", "mend(1, 7, 30)", "mend(0, 0, 1)", "mend(0, 6, 58)").due("mend(0, 7, 1)", BAD).due("mended(7)", 70);
        r.due("mended(0)", 1).due("mended(6)", 58).due("mended(1)", 0).outside("mended(#)", NONE, 0, 7).go("tide(120, 3, 0)").due("mended(7)", 70);
    }

    private static void dueDays() {
        Run.of("DUE is a ROD if v DAYS or more (of THE CUSTOM now) went by since its latest VIEW (without one: since DAY 0)");
        int[] days = {1, 2, 50, 98, 99};
        for (int v : days) {
            Run r = new Run("v " + v).custom("v " + v, 0).go("rod(0, 0, 0)").due("about(0, 7)", 0);
            if (v > 1) {
                r.go("pass(" + (v - 1) + ")").due("about(0, 7)", 0);
            }
            r.go("pass(1)").due("about(0, 7)", 1).go("pass(1)").due("about(0, 7)", 1);
        }
    }

    private static void dueSinceView() {
        Run r = new Run("since its latest VIEW").custom("v 10", 0).go("rod(0, 0, 0)", "pass(5)", "view(0)", "pass(9)").due("about(0, 7)", 0);
        r.go("pass(1)").due("about(0, 7)", 1).go("view(0)").due("about(0, 7)", 0).go("pass(9)").due("about(0, 7)", 0).go("tide(0, 0, 0)").due("about(0, 7)", 1);
        // A ROD that was made later is due since DAY 0, too, and a MENDING is no VIEW.
        r.go("rod(0, 0, 0)").due("about(1, 7)", 1).go("mend(1, 0, 9)").due("about(1, 7)", 1).go("view(1)").due("about(1, 7)", 0);
    }

    private static void dueByTheCustomNow() {
        Run r = new Run("of THE CUSTOM now").custom("v 10", 0).custom("v 5", 8).go("rod(0, 0, 0)", "pass(7)").due("about(0, 7)", 0).go("pass(1)").due("about(0, 7)", 1);
        r.custom("v 9", 8).due("about(0, 7)", 0).custom("v 1", 7).due("about(0, 7)", 0).custom("h 3", 8).due("about(0, 7)", 0).go("pass(90)").due("about(0, 7)", 0);
        r.go("pass(1)").due("about(0, 7)", 1);
    }

    private static void dueWithoutCustom() {
        Run r = new Run("due without a custom").go("rod(0, 0, 0)", "pass(98)").due("about(0, 7)", 0).go("pass(1)").due("about(0, 7)", 1).go("view(0)").due("about(0, 7)", 0);
    }

    private static void faultWhats() {
        Run r = Run.of("The FAULT of a ROD that is there: what 0 whom it binds (-5: nobody), 1 the DAY of its VIEW, 2 how much was missing, 3 FINE so far. NONE: no FAULT, too.");
        r.go("rod(0, 0, 4)", "rod(0, 0, 9)").due("fault(0, 0)", NONE).custom("h 9;f 3;r 0-0 own 6", 0).go("pass(2)", "view(0)", "view(1)", "pass(5)");
        r.due("fault(0, 0)", 6).due("fault(0, 1)", 2).due("fault(0, 2)", 5).due("fault(0, 3)", 15).outside("fault(0, #)", NONE, 0, 3);
        r.each("fault(1, #)", NONE, 0, 1, 2, 3, 4).outside("fault(#, 0)", NONE, 0, 1).go("mend(0, 0, 2)").due("fault(0, 2)", 5).go("mend(0, 0, 3)");
        r.each("fault(0, #)", NONE, 0, 1, 2, 3, 4, -1);
    }

    private static void finesNumbers() {
        Run r = Run.of("What an OWNER owes of FINES in all so far (of FAULTS that ended, too), modulo 1000000. NONE.").outside("fines(#)", NONE, 0, 7);
        r.go("rod(0, 0, 0)", "rod(0, 0, 0)").custom("h 1;f 3;r 0-0 own 0;r 1-1 own 7", 0).go("view(0)", "view(1)", "pass(2)", "view(1)", "pass(1)");
        r.due("fines(0)", 9).due("fines(7)", 9).each("fines(#)", 0, 1, 2, 3, 4, 5, 6);
    }

    private static void finesOfEndedOnes() {
        Run r = new Run("of FAULTS that ended, too").go("rod(0, 0, 0)", "rod(0, 0, 0)").custom("h 9;f 10;r 0-1 own 2", 0).go("view(0)", "pass(1)", "view(1)", "pass(1)");
        r.due("fines(2)", 30).go("mend(0, 0, 9)").due("fines(2)", 30).go("pass(1)").due("fines(2)", 40).go("mend(1, 0, 9)", "pass(9)").due("fines(2)", 40);
    }

    private static void finesModulo() {
        // 999 on each of 1001 DAYS is 999999; then 1 and 1 more.
        Run r = new Run("modulo 1000000").go("rod(0, 0, 0)", "rod(0, 0, 0)").custom("h 9;f 999;r 0-1 own 1", 0).custom("h 9;f 1;r 0-1 own 1", 1001).go("view(0)");
        r.go("pass(400)", "pass(400)", "pass(200)").due("fines(1)", 999000).go("pass(1)").due("fines(1)", 999999).go("mend(0, 0, 9)", "view(1)");
        r.due("fines(1)", 999999).go("pass(1)").due("fines(1)", 0).go("pass(1)").due("fines(1)", 1).due("fault(1, 3)", 2);
    }

    private static void fineOfALongTime() {
        Run r = new Run("a long time").custom("h 99;f 999;r 0-23 own 5", 0);
        for (int rod = 0; rod < 24; rod++) {
            r.go("rod(0, 0, 0)", "view(" + rod + ")");
        }
        for (int i = 0; i < 24; i++) {
            r.go("pass(400)");
        }
        // No modulo is told for one FAULT: 999 times 9999; of 24 such ones 239736024 in all.
        r.go("pass(399)").due("fault(0, 3)", 9989001).due("fault(23, 3)", 9989001).due("fines(5)", 736024);
    }

    // ---- WORKS

    private static void worksHands() {
        Run r = Run.of("WORKS for so many HANDS (0 .. 200)").custom("h 99", 0).go("rod(0, 0, 0)", "rod(0, 0, 0)", "rod(0, 0, 96)", "rod(0, 0, 98)", "rod(0, 0, 97)");
        r.due("works(0, 0)", 0).due("works(0, 1)", 0).due("works(0, 2)", 0).outside("works(#, 0)", BAD, 0, 200);
        // 99, 99, 3, 1, 2 are needed, each ROD is worth 594: four would need 201, three as the least set 99, 99 and 1.
        r.due("works(200, 0)", 3 * 594).due("works(200, 1)", 0b1011).due("works(200, 2)", 199).due("works(199, 1)", 0b1011).due("works(198, 1)", 0b1101);
        r.due("works(1, 1)", 8).due("works(2, 1)", 8).due("works(3, 1)", 24).due("works(3, 2)", 3);
    }

    private static void worksBelowH() {
        Run r = Run.of("a set of RODS below h").custom("h 50", 0).go("rod(0, 0, 49)", "rod(0, 0, 50)", "rod(0, 0, 51)", "rod(0, 0, 49)");
        r.due("works(200, 1)", 9).due("works(200, 2)", 2).due("works(200, 0)", 600);
        Run s = new Run("no custom, no works").go("rod(0, 0, 0)").each("works(200, #)", 0, 0, 1, 2).custom("f 9", 0).each("works(200, #)", 0, 0, 1, 2).custom("h 1", 0);
        s.due("works(200, 0)", 6).due("works(200, 1)", 1).due("works(200, 2)", 1);
        Run t = new Run("no rods, no works").custom("h 99", 0).each("works(200, #)", 0, 0, 1, 2);
    }

    private static void worksNeed() {
        Run r = Run.of("NEED is h less HEIGHT, the sum of HANDS at most").custom("h 50", 0).go("rod(0, 0, 40)", "rod(0, 0, 30)");
        r.due("works(9, 1)", 0).due("works(10, 1)", 1).due("works(19, 1)", 1).due("works(20, 1)", 1).due("works(29, 1)", 1).due("works(30, 1)", 3);
        r.due("works(29, 2)", 10).due("works(30, 2)", 30).due("works(200, 2)", 30).due("works(30, 0)", 600);
        // 200 for all the greatest: 99 and 99, then 2 more.
        Run s = new Run("200 hands").custom("h 99", 0).go("rod(0, 0, 0)", "rod(0, 0, 0)", "rod(0, 0, 99)", "rod(0, 0, 97)").due("works(200, 1)", 11).due("works(199, 1)", 3);
        s.due("works(200, 2)", 200).go("rod(0, 0, 98)").due("works(200, 1)", 11).due("works(199, 1)", 19);
    }

    private static void worksSideBySide() {
        Run.of("no more than two side by side");
        int[] due = {0, 1, 3, 3, 11, 27, 27, 91, 219};
        for (int rods = 0; rods < due.length; rods++) {
            Run r = new Run(rods + " rods alike").custom("h 10", 0);
            for (int rod = 0; rod < rods; rod++) {
                r.go("rod(0, 0, 9)");
            }
            r.due("works(200, 1)", due[rods]).due("works(200, 0)", 60 * Integer.bitCount(due[rods]));
        }
        // RODS that follow one another are side by side, whatever CELLS they are ahead of.
        Run s = new Run("of several cells").custom("h 10", 0).go("rod(0, 0, 9)", "rod(29, 0, 9)", "rod(14, 0, 9)").due("works(200, 1)", 3);
        // 16 of 24.
        Run t = new Run("24 alike").custom("h 10", 0);
        for (int rod = 0; rod < 24; rod++) {
            t.go("rod(0, 0, 9)");
        }
        t.due("works(200, 0)", 960).due("works(200, 2)", 16).due("works(200, 1)", 0b011011011011011011011011);
        // The last ROD is one of them, the only one.
        for (int rod = 0; rod < 23; rod++) {
            t.go("mend(" + rod + ", 0, 1)");
        }
        t.due("works(200, 1)", 1 << 23).due("works(200, 0)", 60).due("works(1, 2)", 1).due("works(0, 1)", 0);
    }

    private static void worksRows() {
        // Each row's WORTH: the rows have LEVELS of 0, 1, 2, 3, 4 all along.
        Run r = Run.of("WORTH of a ROD: the sum, over the CELLS of its CELL's row that are below h, of h less LEVEL");
        for (int cell = 0; cell < 30; cell++) {
            r.go("level(" + cell + ", " + cell / 6 + ")");
        }
        r.custom("h 10", 0);
        int[] cells = {0, 5, 6, 11, 12, 17, 18, 23, 24, 29};
        for (int i = 0; i < cells.length; i++) {
            r.go("rod(" + cells[i] + ", 0, 9)").due("works(200, 0)", 6 * (10 - cells[i] / 6)).due("works(200, 1)", 1L << i).go("mend(" + i + ", 0, 1)");
        }
    }

    private static void worksCellsBelowH() {
        Run r = new Run("the CELLS that are below h").custom("h 50", 0).go("rod(0, 0, 0)", "level(0, 49)", "level(1, 50)", "level(2, 51)", "level(3, 60)", "level(4, 50)", "level(5, 50)");
        r.due("works(200, 0)", 1).due("works(200, 1)", 1).go("level(0, 50)").due("works(200, 0)", 0).due("works(200, 1)", 0).due("works(200, 2)", 0);
        r.go("level(5, 0)").due("works(200, 0)", 50).go("level(6, 0)").due("works(200, 0)", 50);
    }

    private static void worksLeastSet() {
        Run r = Run.of("the most WORTH, of several the least set as bits").custom("h 10", 0).go("rod(0, 0, 8)", "rod(0, 0, 9)", "rod(0, 0, 9)", "rod(0, 0, 8)");
        // 1 HAND: ROD 1; 2: RODS 1 and 2; 3: 0 and 1; 4: 0, 1 and 3 need 5, so 3 RODS at 5.
        r.due("works(1, 1)", 2).due("works(2, 1)", 6).due("works(3, 1)", 3).due("works(4, 1)", 3).due("works(5, 1)", 11).due("works(200, 1)", 11);
        // More WORTH stands ahead of fewer RODS and of a lesser set.
        Run s = new Run("the most worth").custom("h 10", 0).go("rod(0, 0, 9)", "rod(6, 0, 9)", "level(0, 1)").due("works(1, 1)", 2).due("works(1, 0)", 60).due("works(2, 1)", 3);
        // RODS without WORTH are left out.
        Run t = new Run("without worth").custom("h 1", 0).go("rod(0, 0, 0)", "rod(6, 0, 0)");
        for (int cell = 0; cell < 6; cell++) {
            t.go("level(" + cell + ", 1)");
        }
        t.due("works(200, 1)", 2).due("works(200, 0)", 6).due("works(200, 2)", 1);
    }

    private static void worksRefusals() {
        Run r = Run.of("WORKS for HANDS: what 0 WORTH, 1 the set as bits, 2 HANDS that it takes. NONE; BAD.").outside("works(0, #)", NONE, 0, 2);
        r.due("works(-1, 3)", NONE).due("works(201, -1)", NONE).due("works(201, 2)", BAD).due("works(-1, 0)", BAD).due("works(200, 2)", 0);
    }

    // ---- SCOTS, COUNTS

    private static void scotSums() {
        Run r = Run.of("SCOTS of a sum (0 .. 100000): the share of an OWNER. NONE; BAD.").due("scot(0, 0)", 0).due("scot(100000, 0)", 100000).due("scot(100000, 7)", 0);
        r.outside("scot(#, 0)", BAD, 0, 100000).due("scot(-1, 8)", NONE).due("scot(100001, -1)", NONE).go("sell(0, 0, 7, 12, 0)");
        // 348 and 12 of 360: 96666 and 240, 3333 and 120.
        r.due("scot(100000, 0)", 96667).due("scot(100000, 7)", 3333).due("scot(1, 0)", 1).due("scot(1, 7)", 0).due("scot(30, 7)", 1).due("scot(30, 0)", 29);
    }

    private static void scotCut() {
        // OWNER 1 has 1 of 360: 179 and 180 and 181 of 360 left over against the rest of OWNER 0.
        Run r = Run.of("sum times PARTS by 360, cut, and what is left one each by the greatest remainders (of several the least OWNER)").go("sell(0, 0, 1, 1, 0)");
        r.due("scot(179, 1)", 0).due("scot(179, 0)", 179).due("scot(180, 1)", 0).due("scot(180, 0)", 180).due("scot(181, 1)", 1).due("scot(181, 0)", 180);
        r.due("scot(359, 1)", 1).due("scot(359, 0)", 358).due("scot(360, 1)", 1).due("scot(360, 0)", 359).due("scot(361, 1)", 1).due("scot(540, 1)", 1);
        r.due("scot(540, 0)", 539).due("scot(541, 1)", 2);
    }

    private static void scotRemainders() {
        // 45 each: of n what is left goes to the least OWNERS.
        Run r = new Run("all alike");
        r.sellAlike();
        for (int sum = 0; sum <= 17; sum++) {
            for (int owner = 0; owner < 8; owner++) {
                r.due("scot(" + sum + ", " + owner + ")", sum / 8 + (owner < sum % 8 ? 1 : 0));
            }
        }
        r.due("scot(100000, 0)", 12500).due("scot(99999, 6)", 12500).due("scot(99999, 7)", 12499);
    }

    private static void scotNow() {
        Run r = Run.of("(on DAY now, all known)").go("sell(0, 0, 4, 12, 10)", "pass(9)").due("scot(360, 4)", 0).go("pass(1)").due("scot(360, 4)", 12);
        r.go("sell(1, 0, 4, 12, 9)").due("scot(360, 4)", 24).go("sell(2, 0, 4, 12, 11)").due("scot(360, 4)", 24).go("pass(1)").due("scot(360, 4)", 36).due("scot(360, 0)", 324);
    }

    private static void counts() {
        Run r = Run.of("0 DAY, 1 RODS, 2 SALES, 3 COURTS, 4 HERDS that live, 5 FAULTS that are there").due("count(0)", 0).due("count(10)", 0).outside("count(#)", NONE, 0, 10);
        r.go("rod(0, 1, 99)", "rod(0, 1, 99)", "herd(0)", "herd(1)", "herd(2)", "sell(0, 0, 1, 1, 5)").custom("h 5", 0).custom("h 6", 0).custom("h 7", 0).custom("h 8", 0);
        r.go("tide(0, 0, 1)", "tide(0, 0, 0)", "tide(0, 0, 0)", "tide(0, 0, 0)", "tide(0, 0, 0)", "pass(4)").tape("abcdefg");
        int[] due = {9, 2, 1, 4, 3, 0, 180, 0, 180, 7, 5};
        for (int what = 0; what < due.length; what++) {
            r.due("count(" + what + ")", due[what]);
        }
    }

    private static void countTape() {
        Run r = Run.of("8 WATER in all CELLS, 9 bytes of THE TAPE, 10 TIDES. NONE.").due("count(9)", 0).due("feed(0, 8)", 8).due("count(9)", 8).due("count(10)", 0);
        r.go("pass(3)").due("count(10)", 0).go("tide(0, 0, 50)").due("count(10)", 1).due("count(8)", 9000).due("count(0)", 4).go("year()").due("count(10)", 1);
    }
}
