/** Promise 1: a new object. */
public final class NewObjectTest {
    public static void main(String[] args) {
        isNew(Run.of("No RODS, no HERDS, no COURT was."));
        besideAnother();
        Run.finish();
    }

    /** What one object is told is nothing to another one, made ahead of it or behind it. */
    private static void besideAnother() {
        Run early = new Run("promise 1, made ahead of one that is used");
        Run used = new Run("promise 1, used").go("level(3, 9)", "rod(0, 0, 5)", "herd(1)", "gate(0, 1, 0)", "sell(0, 0, 1, 5, 0)").custom("h 9;r 0-0 own 1", 0);
        used.go("view(0)", "mend(0, 2, 1)", "pass(9)", "tide(60, 2, 9)").tape("abc");
        isNew(early);
        isNew(new Run("promise 1, made behind one that is used"));
        used.due("count(1)", 1).due("count(3)", 1).due("count(9)", 3).due("count(0)", 10);
    }

    private static void isNew(Run r) {
        for (int what = 0; what <= 10; what++) {
            r.due("count(" + what + ")", 0);
        }
        for (int cell = 0; cell < 30; cell++) {
            for (int what = 0; what <= 4; what++) {
                r.due("cell(" + cell + ", " + what + ")", 0);
            }
            r.due("held(" + cell + ", 0, 0, 0)", 12);
        }
        r.due("about(0, 0)", MarshCourt.NONE).due("where(0)", MarshCourt.NONE);
        r.due("custom(0, 0, 0)", MarshCourt.NONE).due("custom(0, 1, 0)", MarshCourt.NONE);
        for (int owner = 0; owner < 8; owner++) {
            r.due("held(-1, " + owner + ", 9999, 0)", owner == 0 ? 360 : 0);
            r.due("fines(" + owner + ")", 0).due("mended(" + owner + ")", 0);
        }
        r.due("gate(0, 1, 1)", 1).due("rod(0, 0, 0)", 0).due("herd(0)", 0).due("about(0, 6)", MarshCourt.NONE);
    }
}
