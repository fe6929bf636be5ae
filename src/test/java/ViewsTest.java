/** Promises 21 to 25: view, mend, fault, fines, mended; with part 5. */
public final class ViewsTest {
    private static final int NONE = MarshCourt.NONE, BAD = MarshCourt.BAD, FULL = MarshCourt.FULL;

    public static void main(String[] args) {
        views();
        customAtView();
        endings();
        common();
        mending();
        refusals();
        fullFaults();
        manyFines();
        Run.finish();
    }

    private static void views() {
        Run r = new Run("promise 21");
        r.go("rod(0, 0, 30)", "rod(1, 0, 50)", "rod(2, 0, 49)").due("view(0)", 0).due("about(0, 6)", 0).due("fault(0, 0)", NONE);
        r.custom("h 50;f 3;r 0-2 own 5", 0).due("view(0)", 20).due("view(1)", 0).due("view(2)", 1).due("count(5)", 2);
        r.due("fault(0, 0)", 5).due("fault(0, 1)", 0).due("fault(0, 2)", 20).due("fault(0, 3)", 0).due("fault(1, 0)", NONE);
        r.go("pass(4)").due("fault(0, 3)", 12).due("fault(2, 3)", 12).due("fault(2, 2)", 1).due("fines(5)", 24).due("fines(0)", 0);
        // Viewed again: the old FAULT has ended and what is owed stays.
        r.due("view(0)", 20).due("fault(0, 1)", 4).due("fault(0, 3)", 0).due("fines(5)", 24).due("count(5)", 2);
        r.go("tide(0, 0, 0)").due("fault(0, 3)", 3).due("fault(2, 3)", 15).due("fines(5)", 30).due("about(0, 6)", 4);
    }

    private static void customAtView() {
        // The FINE and the MENDER are those of the VIEW, whatever courts and sales say later of that very day.
        Run r = new Run("part 5, as it was at the view");
        r.go("rod(0, 0, 30)").custom("h 50;f 3;r 0-0 front", 0).due("view(0)", 20).custom("h 90;f 100;r 0-0 own 3", 0);
        r.go("sell(0, 0, 4, 12, 0)", "pass(10)").due("fault(0, 3)", 30).due("fault(0, 0)", 0).due("fines(0)", 30).due("fines(3)", 0);
        r.due("fault(0, 2)", 20);
        // The h that ends it is that of the VIEW, too.
        r.due("mend(0, 1, 19)", 49).due("count(5)", 1).due("mend(0, 1, 1)", 50).due("count(5)", 0).due("fault(0, 0)", NONE);
        r.go("pass(10)").due("fines(0)", 30).due("view(0)", 40).due("fault(0, 0)", 3).go("pass(2)").due("fines(3)", 200);
        Run s = new Run("part 5, a lower h later");
        s.go("rod(0, 0, 30)").custom("h 50;f 1;r 0-0 own 1", 0).due("view(0)", 20).custom("h 31", 0).due("mend(0, 0, 5)", 35);
        s.due("count(5)", 1).go("pass(7)").due("fines(1)", 7).due("view(0)", 0).due("count(5)", 0).go("pass(7)").due("fines(1)", 7);
        // The CUSTOM of now: one in force later does not count yet, one in force from a past day does.
        Run t = new Run("part 5, the custom of now");
        t.go("rod(0, 0, 30)").custom("h 50;f 2;r 0-0 own 2", 5).due("view(0)", 0).go("pass(4)").due("view(0)", 0).go("pass(1)");
        t.due("view(0)", 20).go("pass(10)").custom("h 40;f 9;r 0-0 own 3", 7).due("view(0)", 10).due("fault(0, 0)", 3);
        t.due("fines(2)", 20).go("pass(1)").due("fines(3)", 9).due("fines(2)", 20);
    }

    private static void endings() {
        Run r = new Run("part 5, endings");
        r.go("rod(0, 0, 0)").custom("h 50;f 7;r 0-0 own 2", 0).due("view(0)", 50).go("pass(3)").due("mend(0, 6, 50)", 50);
        r.due("fault(0, 3)", NONE).due("fines(2)", 21).due("fines(6)", 0).go("pass(3)").due("fines(2)", 21);
        // Wear alone makes no FAULT, a VIEW does.
        r.go("tide(60, 0, 0)").due("fault(0, 0)", NONE).due("view(0)", 50 - (int) r.call("about(0, 2)")).due("count(5)", 1);
        // A FAULT on and off on one day costs nothing.
        Run s = new Run("part 5, the same day");
        s.go("rod(0, 0, 0)").custom("h 50;f 7;r 0-0 own 2", 0).go("view(0)", "view(0)", "mend(0, 0, 99)").due("fines(2)", 0).due("count(5)", 0);
    }

    private static void common() {
        Run r = new Run("part 5, common");
        r.go("rod(0, 0, 0)").custom("h 50;f 7", 0).due("view(0)", 50).due("fault(0, 0)", -5).due("count(5)", 1).go("pass(2)");
        r.due("fault(0, 3)", 14);
        for (int owner = 0; owner < 8; owner++) {
            r.due("fines(" + owner + ")", 0);
        }
        r.due("mend(0, 0, 50)", 50).due("count(5)", 0);
    }

    private static void mending() {
        Run r = new Run("promises 22, 25");
        r.go("rod(0, 0, 0)", "rod(1, 1, 98)").due("mend(0, 3, 99)", 99).due("mend(0, 3, 1)", BAD).due("mend(1, 3, 2)", BAD);
        r.due("mend(1, 7, 1)", 99).due("mended(3)", 99).due("mended(7)", 1).due("mended(0)", 0).due("about(1, 2)", 99);
        r.each("mend(0, 3, #)", BAD, -1, 0, 100, Integer.MIN_VALUE, Integer.MAX_VALUE).due("mended(3)", 99).due("about(0, 2)", 99);
        // It wears and is mended again: what was mended adds up, what it wore stays.
        r.go("tide(100, 3, 0)").due("about(0, 2)", 95).due("mend(0, 3, 4)", 99).due("mended(3)", 103).due("about(0, 5)", 4);
        r.each("mended(#)", NONE, -1, 8, Integer.MIN_VALUE, Integer.MAX_VALUE);
    }

    private static void refusals() {
        Run r = new Run("promises 21 to 24, refusals");
        r.due("view(0)", NONE).due("fault(0, 0)", NONE).due("mend(0, 0, 1)", NONE).go("rod(0, 0, 0)").custom("h 9", 0).due("view(0)", 9);
        r.each("view(#)", NONE, -1, 1, Integer.MIN_VALUE, Integer.MAX_VALUE);
        r.each("mend(#, 0, 1)", NONE, -1, 1, Integer.MIN_VALUE, Integer.MAX_VALUE);
        r.each("mend(0, #, 1)", NONE, -1, 8, Integer.MIN_VALUE, Integer.MAX_VALUE).due("mend(1, 0, 0)", NONE).due("mend(0, 8, 0)", NONE);
        r.each("fault(#, 0)", NONE, -1, 1, Integer.MIN_VALUE, Integer.MAX_VALUE);
        r.each("fault(0, #)", NONE, -1, 4, Integer.MIN_VALUE, Integer.MAX_VALUE);
        r.each("fines(#)", NONE, -1, 8, Integer.MIN_VALUE, Integer.MAX_VALUE).due("about(0, 2)", 0).due("mended(0)", 0);
    }

    private static void fullFaults() {
        Run r = new Run("promise 21, full");
        r.go("rod(0, 0, 0)", "rod(0, 0, 99)").custom("h 9;f 1;r 0-0 own 1", 0);
        for (int i = 0; i < 60; i++) {
            r.due("view(0)", 9);
        }
        // The sixty-first is refused and leaves the one that is there; what is no FAULT may still be viewed.
        r.go("pass(5)").due("view(0)", FULL).due("about(0, 6)", 0).due("fault(0, 1)", 0).due("fault(0, 3)", 5).due("count(5)", 1);
        r.due("view(1)", 0).due("about(1, 6)", 5).go("mend(0, 0, 9)").due("count(5)", 0).due("view(0)", 0).due("about(0, 6)", 5);
        r.due("view(2)", NONE).due("fines(1)", 5).custom("h 10", 0).due("view(0)", FULL);
    }

    private static void manyFines() {
        Run r = new Run("promise 24, modulo");
        r.go("rod(0, 0, 0)", "rod(0, 0, 0)").custom("h 9;f 999;r 0-1 own 1", 0).due("view(0)", 9).due("view(1)", 9);
        for (int i = 0; i < 3; i++) {
            r.go("pass(400)");
        }
        r.due("fault(0, 3)", 1198800).due("fines(1)", 397600);
    }
}
