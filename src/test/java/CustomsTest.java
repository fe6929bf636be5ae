/** Promises 17 to 20: feed, court, custom, mender; with part 4. */
public final class CustomsTest {
    private static final int NONE = MarshCourt.NONE, BAD = MarshCourt.BAD, FULL = MarshCourt.FULL;

    public static void main(String[] args) {
        feeding();
        courts();
        faults();
        faultsOfNumbers();
        clauseCount();
        againstPattern();
        customs();
        menders();
        acres();
        knownThen();
        Run.finish();
    }

    private static void feeding() {
        Run r = new Run("promise 17");
        r.each("feed(0, #)", BAD, -1, 0, 9, Integer.MIN_VALUE, Integer.MAX_VALUE);
        // The lowest bytes, the highest first: what is above them does not count.
        r.due("feed(" + 0x7878782068203530L + ", 4)", 4).due("court(0)", 0).due("custom(0, 1, 1)", 50);
        r.due("feed(104, 1)", 1).due("feed(" + 0x2037L + ", 2)", 3).due("count(9)", 3).due("court(0)", 1).due("custom(0, 2, 1)", 7);
        r.due("feed(-1, 8)", 8).due("court(0)", -10).due("count(9)", 0);
        for (int i = 1; i <= 19; i++) {
            r.due("feed(" + 0x6820393968203939L + ", 8)", 8 * i);
        }
        r.due("feed(0, 1)", 153).due("feed(0, 8)", FULL).due("feed(0, 9)", BAD).due("count(9)", 153);
        r.due("feed(0, 7)", 160).due("feed(0, 1)", FULL).due("count(9)", 160).due("court(0)", -14).due("count(9)", 0);
    }

    private static void courts() {
        Run r = new Run("promise 18");
        r.tape("h 1").each("court(#)", BAD, -1, 10000, Integer.MIN_VALUE, Integer.MAX_VALUE).due("count(9)", 3);
        r.due("court(9999)", 0).due("count(9)", 0).due("count(3)", 1).due("custom(9999, 1, 1)", 1).due("custom(9998, 1, 1)", NONE);
        for (int i = 1; i < 12; i++) {
            r.custom("h " + i, 0);
        }
        r.tape("x").due("court(0)", FULL).due("court(10000)", BAD).due("count(9)", 1).due("count(3)", 12);
        // A text that is refused leaves nothing of itself.
        Run s = new Run("promise 18, refused texts");
        s.custom("h 5;r 0-3 own 2", 0).go("rod(0, 0, 9)").faulty("h 9;f 8;v 7;s 6;r 0-0 own 1;", 28);
        s.due("count(3)", 1).due("custom(0, 1, 1)", 5).due("mender(0, 0, 1, 0)", 2).custom("s 3", 0);
        s.due("custom(0, 2, 1)", 0).due("custom(0, 2, 2)", 0).due("custom(0, 2, 3)", 99).due("custom(0, 2, 4)", 3);
        s.due("mender(0, 0, 2, 0)", -5).due("court(0)", -10).faulty("s 5;", 4).custom("f 1", 0).due("custom(0, 3, 4)", 0).due("custom(0, 3, 2)", 1);
    }

    private static void faults() {
        Run r = new Run("part 4, faults");
        r.faulty("x", 0).faulty(" ", 0).faulty(";", 0).faulty("R", 0).faulty("5", 0).faulty("h", 1).faulty("h ", 2).faulty("h5", 1);
        r.faulty("h  5", 2).faulty("h 5 ", 3).faulty("h 5;", 4).faulty("h 5; f 3", 4).faulty("h 5 ;f 3", 3).faulty("h 5;;f 3", 4);
        r.faulty("h 5,f 3", 3).faulty("h -1", 2).faulty("h x", 2).faulty("h 5x", 3).faulty("h 5;x", 4).faulty("h 5h 5", 3);
        r.faulty("h :", 2).faulty("h 5:", 3).faulty("h /", 2).faulty("h 5/", 3);
        Run s = new Run("part 4, faults of r");
        s.faulty("r", 1).faulty("r ", 2).faulty("r 1", 3).faulty("r 1-", 4).faulty("r 1-2", 5).faulty("r 1-2 ", 6);
        s.faulty("r 1 -2 front", 3).faulty("r 1- 2 front", 4).faulty("r 1-2front", 5).faulty("r 1-2  front", 6).faulty("r 1;h 5", 3);
        s.faulty("r 1-2 x", 6).faulty("r 1-2 f", 7).faulty("r 1-2 fron", 10).faulty("r 1-2 frond", 10).faulty("r 1-2 front ", 11);
        s.faulty("r 1-2 front 3", 11).faulty("r 1-2 acre", 10).faulty("r 1-2 acrez", 10).faulty("r 1-2 acress", 11);
        Run t = new Run("part 4, faults of own");
        t.faulty("r 1-2 own", 9).faulty("r 1-2 own ", 10).faulty("r 1-2 own;", 9).faulty("r 1-2 own x", 10).faulty("r 1-2 own3", 9);
        t.faulty("r 1-2 own  3", 10).faulty("r 1-2 own 3 ", 11).faulty("r 1-2 oxn 3", 7).faulty("r 1-2 own 8", 10).faulty("r 1-2 own 10", 11);
        t.faulty("r 1-2 own 03", 11).faulty("r-1-2 own 0", 1).faulty("r 1-2-3 own 0", 5);
        // Bytes above 127 and a 0 byte.
        t.faulty("h 5" + (char) 0xbb, 3).faulty("" + (char) 0xe8, 0).faulty("h 5" + (char) 0, 3);
    }

    private static void faultsOfNumbers() {
        Run r = new Run("part 4, numbers");
        r.faulty("r 24-25 front", 3).faulty("r 0-24 front", 5).faulty("r 30-1 front", 3).faulty("r 230-1 front", 4).faulty("r 99-1 front", 3);
        r.faulty("h 100", 4).faulty("h 990", 4).faulty("f 1000", 5).faulty("v 100", 4).faulty("s 1000", 5).faulty("s 9999", 5);
        r.faulty("h 00", 3).faulty("h 05", 3).faulty("f 01", 3).faulty("s 00", 3).faulty("v 0", 2).faulty("v 01", 2).faulty("r 00-1 front", 3);
        r.faulty("r 0-01 front", 5).faulty("r 1-00 acres", 5);
        Run s = new Run("part 4, the greatest numbers");
        s.custom("h 99;f 999;v 99;s 999;r 23-23 own 7;r 0-0 own 0", 0);
        s.due("custom(0, 1, 1)", 99).due("custom(0, 1, 2)", 999).due("custom(0, 1, 3)", 99).due("custom(0, 1, 4)", 999);
        s.custom("h 0;f 0;v 1;s 0", 0).due("custom(0, 2, 1)", 0).due("custom(0, 2, 2)", 0).due("custom(0, 2, 3)", 1).due("custom(0, 2, 4)", 0);
        s.custom("h 10;f 100;v 10;s 120", 0).due("custom(0, 3, 1)", 10).due("custom(0, 3, 2)", 100).due("custom(0, 3, 4)", 120);
    }

    private static void clauseCount() {
        String ten = "h 1;h 2;h 3;h 4;h 5;h 6;h 7;h 8;h 9;h 10";
        Run r = new Run("part 4, ten clauses").custom(ten, 0).due("custom(0, 1, 1)", 10);
        r.faulty(ten + ";", 40).faulty(ten + ";h 11", 40).faulty(ten + "x", 40).faulty(ten + ";h 11;x", 40);
        // The longest text of ten clauses takes 139 bytes.
        String rule = "r 10-20 own 7";
        StringBuilder text = new StringBuilder(rule);
        for (int i = 1; i < 10; i++) {
            text.append(';').append(rule);
        }
        r.custom(text.toString(), 1).go("rod(0, 0, 0)").due("mender(0, 1, 2, 0)", -5);
    }

    /** One sign put in, changed or left out at every place, held against the pattern of SlowCourt. */
    private static void againstPattern() {
        String[] texts = {"r 0-23 front;r 10-9 own 7;r 5-19 acres;h 99", "f 999;v 1;s 0;h 50", "v 99;h 0;r 2-3 own 0", "s 120;f 30"};
        for (String text : texts) {
            for (int at = 0; at <= text.length(); at++) {
                for (char sign : "rhfvs owntace0123459-;".toCharArray()) {
                    hold(text.substring(0, at) + sign + text.substring(at));
                    hold(text.substring(0, at) + sign + text.substring(Math.min(text.length(), at + 1)));
                }
                hold(text.substring(0, at));
                hold(text.substring(0, at) + text.substring(Math.min(text.length(), at + 1)));
            }
        }
    }

    private static void hold(String text) {
        MarshCourt m = new MarshCourt();
        for (char sign : text.toCharArray()) {
            m.feed(sign, 1);
        }
        int fault = SlowCourt.faultOf(text);
        Run.equal("part 4", "court of '" + text + "'", m.court(0), fault == -1 ? 0 : -10 - fault);
    }

    private static void customs() {
        Run r = new Run("promise 19");
        r.custom("h 1;f 2;v 3;s 4", 10).custom("h 20", 20).custom("h 5", 10).custom("f 9;h 3;f 8", 15).custom("h 6", 5);
        r.due("custom(4, 5, 0)", NONE).due("custom(5, 5, 0)", 4).due("custom(9, 5, 1)", 6).due("custom(9, 4, 0)", NONE);
        // Of one day the last entered; the greatest day not above it.
        r.due("custom(10, 1, 0)", 0).due("custom(10, 3, 0)", 2).due("custom(14, 5, 1)", 5).due("custom(15, 5, 0)", 3).due("custom(15, 3, 0)", 2);
        r.due("custom(19, 5, 2)", 8).due("custom(20, 5, 0)", 1).due("custom(9999, 5, 1)", 20).due("custom(20, 1, 0)", 0);
        r.due("custom(12, 1, 1)", 1).due("custom(12, 1, 2)", 2).due("custom(12, 1, 3)", 3).due("custom(12, 1, 4)", 4);
        r.due("custom(12, 3, 2)", 0).due("custom(12, 3, 3)", 99).due("custom(12, 3, 4)", 0).due("custom(12, 0, 0)", NONE);
        r.each("custom(12, #, 0)", NONE, -1, 6, Integer.MIN_VALUE, Integer.MAX_VALUE);
        r.each("custom(12, 5, #)", NONE, -1, 5, Integer.MIN_VALUE, Integer.MAX_VALUE);
        // "None is in force" is told ahead of BAD: ahead of DAY 0 there is none, behind DAY 9999 there is one.
        r.each("custom(#, 5, 0)", BAD, 10000, Integer.MAX_VALUE).each("custom(#, 5, 0)", NONE, -1, Integer.MIN_VALUE);
        r.due("custom(10000, 0, 0)", NONE).due("custom(10000, 6, 0)", NONE).due("custom(10000, 5, 5)", NONE);
    }

    private static void menders() {
        Run r = new Run("promise 20");
        r.go("rod(7, 0, 0)", "rod(8, 0, 0)", "rod(7, 0, 0)", "rod(9, 0, 0)");
        r.due("mender(0, 0, 0, 0)", -5).custom("r 0-2 front;r 1-1 own 6;r 3-2 own 1", 5).custom("h 9", 8);
        r.due("mender(0, 4, 1, 0)", -5).due("mender(0, 5, 0, 0)", -5).due("mender(0, 5, 1, 0)", 0).due("mender(1, 5, 1, 0)", 6);
        r.due("mender(2, 5, 1, 0)", 0).due("mender(3, 5, 1, 0)", -5).due("mender(0, 8, 2, 0)", -5).due("mender(0, 8, 1, 0)", 0);
        // Front: the most PARTS, of several the least OWNER.
        r.go("sell(7, 0, 5, 6, 6)").due("mender(0, 6, 1, 1)", 0).go("sell(7, 0, 3, 1, 6)").due("mender(0, 6, 1, 2)", 5);
        r.due("mender(0, 5, 1, 2)", 0).due("mender(0, 6, 1, 1)", 0).due("mender(0, 6, 1, 0)", 0);
        r.go("sell(7, 0, 3, 5, 7)").due("mender(0, 7, 1, 3)", 3).due("mender(2, 7, 2, 3)", 3).due("mender(0, 6, 1, 3)", 5);
        r.each("mender(#, 5, 1, 0)", NONE, -1, 4, Integer.MIN_VALUE, Integer.MAX_VALUE);
        r.each("mender(0, 5, #, 0)", NONE, -1, 3, Integer.MIN_VALUE, Integer.MAX_VALUE);
        r.each("mender(0, 5, 1, #)", NONE, -1, 4, Integer.MIN_VALUE, Integer.MAX_VALUE);
        r.each("mender(0, #, 1, 0)", BAD, -1, 10000, Integer.MIN_VALUE, Integer.MAX_VALUE);
        r.due("mender(4, -1, 1, 0)", NONE).due("mender(0, -1, 3, 0)", NONE).due("mender(0, -1, 1, 4)", NONE);
        // The last rule that has the ROD counts, also when it comes ahead of a narrower one.
        Run s = new Run("part 4, the last rule").go("rod(0, 0, 0)", "rod(0, 0, 0)").custom("r 1-1 own 6;r 0-23 own 2;r 0-0 own 4;f 3", 0);
        s.due("mender(0, 0, 1, 0)", 4).due("mender(1, 0, 1, 0)", 2);
    }

    private static void acres() {
        Run r = new Run("part 4, acres");
        for (int i = 0; i < 6; i++) {
            r.go("rod(0, 0, 0)");
        }
        r.custom("r 1-4 acres", 0).due("mender(0, 0, 1, 0)", -5).due("mender(1, 0, 1, 0)", 0).due("mender(4, 0, 1, 0)", 0).due("mender(5, 0, 1, 0)", -5);
        // OWNER 2 gets ten cells, OWNER 1 five: 180, 60, 120 of 360; 4 RODS: 2, 0 and 240, 1 and 120: 2, 1, 1.
        int known = 0;
        for (int cell = 0; cell < 15; cell++) {
            r.go("sell(" + cell + ", 0, " + (cell < 10 ? 2 : 1) + ", 12, 10)");
            known++;
        }
        int[] due = {-5, 0, 0, 1, 2, -5};
        for (int rod = 0; rod < 6; rod++) {
            r.due("mender(" + rod + ", 10, 1, " + known + ")", due[rod]);
        }
        r.due("mender(3, 9, 1, 15)", 0).due("mender(4, 10, 1, 10)", 2).due("mender(3, 10, 1, 10)", 0);
        // RODS that are not there count: 24 of them go 12, 4, 8.
        r.custom("r 0-23 acres", 0).due("mender(5, 10, 2, 15)", 0).custom("r 0-5 acres", 0);
        // 6: 3, 1, 2.
        int[] six = {0, 0, 0, 1, 2, 2};
        for (int rod = 0; rod < 6; rod++) {
            r.due("mender(" + rod + ", 10, 3, 15)", six[rod]);
        }
        // Equal remainders: the least OWNER gets one more. 180 and 180, 3 RODS: 2 and 1.
        Run s = new Run("part 4, equal remainders").go("rod(0, 0, 0)", "rod(0, 0, 0)", "rod(0, 0, 0)").custom("r 0-2 acres", 0);
        for (int cell = 0; cell < 15; cell++) {
            s.go("sell(" + cell + ", 0, 7, 12, 0)");
        }
        s.due("mender(0, 0, 1, 15)", 0).due("mender(1, 0, 1, 15)", 0).due("mender(2, 0, 1, 15)", 7);
        s.custom("r 1-1 acres", 0).due("mender(1, 0, 2, 15)", 0).go("sell(20, 0, 7, 1, 0)").due("mender(1, 0, 2, 16)", 7);
    }

    private static void knownThen() {
        Run r = new Run("part 4, as was known then");
        r.go("rod(0, 0, 0)").custom("r 0-0 front", 50).custom("r 0-0 own 3", 40).custom("r 0-0 own 4", 50);
        r.go("sell(0, 0, 1, 8, 60)", "sell(0, 1, 2, 8, 70)", "sell(0, 0, 5, 4, 55)");
        r.due("mender(0, 49, 3, 3)", 3).due("mender(0, 49, 1, 3)", -5).due("mender(0, 50, 3, 3)", 4).due("mender(0, 50, 2, 3)", 0);
        r.due("mender(0, 65, 2, 1)", 1).due("mender(0, 75, 2, 1)", 1).due("mender(0, 75, 2, 2)", 2).due("mender(0, 65, 1, 3)", 1);
        r.due("mender(0, 59, 1, 2)", 0).due("mender(0, 59, 1, 3)", 0);
    }
}
