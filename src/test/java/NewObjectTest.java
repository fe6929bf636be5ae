/** Promise 1: a new object. */
public final class NewObjectTest {
    public static void main(String[] args) {
        Run r = new Run("promise 1");
        for (int what = 0; what <= 10; what++) {
            r.due("count(" + what + ")", 0);
        }
        for (int cell = 0; cell < 30; cell++) {
            for (int what = 0; what <= 4; what++) {
                r.due("cell(" + cell + ", " + what + ")", 0);
            }
            r.due("held(" + cell + ", 0, 0, 0)", 12);
        }
        r.due("about(0, 0)", MarshCourt.NONE).due("where(0)", MarshCourt.NONE);
        r.due("custom(0, 0, 0)", MarshCourt.NONE).due("custom(0, 1, 0)", MarshCourt.NONE);
        for (int owner = 0; owner < 8; owner++) {
            r.due("held(-1, " + owner + ", 9999, 0)", owner == 0 ? 360 : 0);
            r.due("fines(" + owner + ")", 0).due("mended(" + owner + ")", 0);
        }
        Run.finish();
    }
}
