import java.util.Random;

/** Promises 26 to 28: works, scot, count. */
public final class WorksTest {
    private static final int NONE = MarshCourt.NONE, BAD = MarshCourt.BAD;

    public static void main(String[] args) {
        works();
        sideBySide();
        leastSet();
        manyRods();
        scots();
        counts();
        Run.finish();
    }

    private static void works() {
        Run r = new Run("promise 26");
        r.due("works(200, 0)", 0).due("works(200, 1)", 0).due("works(200, 2)", 0);
        r.go("rod(0, 0, 40)", "rod(7, 0, 50)", "rod(13, 0, 51)", "rod(29, 0, 20)").due("works(200, 1)", 0);
        r.custom("h 50", 0);
        // WORTH: 6 times 50 for each row; NEED 10 and 30; those at h and above are none of it.
        r.due("works(200, 0)", 600).due("works(200, 1)", 9).due("works(200, 2)", 40);
        r.due("works(40, 1)", 9).due("works(39, 1)", 1).due("works(39, 2)", 10).due("works(10, 1)", 1).due("works(9, 1)", 0).due("works(0, 0)", 0);
        // CELLS at h and above count nothing in their row.
        r.go("level(0, 50)", "level(1, 60)", "level(5, 49)").due("works(200, 0)", 300 + 3 * 50 + 1).due("works(39, 1)", 8);
        r.due("works(39, 0)", 300).due("works(29, 1)", 1).due("works(29, 0)", 151).due("works(29, 2)", 10);
        r.each("works(#, 0)", BAD, -1, 201, Integer.MIN_VALUE, Integer.MAX_VALUE);
        r.each("works(0, #)", NONE, -1, 3, Integer.MIN_VALUE, Integer.MAX_VALUE).due("works(201, 3)", NONE);
        // A CUSTOM of later does not count; nor do rods of no WORTH.
        r.custom("h 99", 1).due("works(29, 0)", 151).go("pass(1)").due("works(29, 1)", 0);
        Run s = new Run("promise 26, no worth").go("rod(0, 0, 0)").custom("h 10", 0);
        for (int cell = 0; cell < 6; cell++) {
            s.go("level(" + cell + ", 10)");
        }
        s.due("works(200, 1)", 0).due("works(200, 2)", 0).go("level(3, 9)").due("works(200, 1)", 1).due("works(200, 0)", 1);
    }

    private static void sideBySide() {
        Run r = new Run("part 5, no more than two side by side");
        r.custom("h 10", 0);
        for (int i = 0; i < 5; i++) {
            r.go("rod(0, 0, 9)");
        }
        // Four of five: 1, 1, 0, 1, 1; of three alike the two lowest.
        r.due("works(200, 1)", 27).due("works(4, 0)", 240).due("works(3, 1)", 11).due("works(2, 1)", 3);
        // The middle one is up already: the rest is free.
        r.go("mend(2, 0, 1)").due("works(200, 1)", 27).go("mend(0, 0, 1)").due("works(200, 1)", 26);
        Run s = new Run("part 5, six rods").custom("h 10", 0);
        for (int i = 0; i < 6; i++) {
            s.go("rod(0, 0, 9)");
        }
        s.due("works(200, 1)", 27).due("works(200, 2)", 4).go("level(0, 9)", "level(1, 9)").due("works(200, 0)", 168);
    }

    private static void leastSet() {
        // One of three alike; cheap ones rather than a dear one of the same WORTH only by the set.
        Run r = new Run("part 5, the least set").custom("h 20", 0).go("rod(0, 0, 0)", "rod(1, 0, 19)", "rod(2, 0, 19)");
        r.due("works(20, 1)", 6).due("works(21, 1)", 3).due("works(22, 1)", 3).due("works(1, 1)", 2).due("works(2, 1)", 6).due("works(22, 2)", 21);
    }

    /** 24 RODS: every set that may be is tried. */
    private static void manyRods() {
        for (int seed = 0; seed < 6; seed++) {
            Random random = new Random(seed);
            Run r = new Run("promise 26, 24 rods, seed " + seed);
            int h = 40 + 10 * seed;
            r.custom("h " + h, 0);
            int[] levels = new int[30];
            for (int cell = 0; cell < 30; cell++) {
                levels[cell] = random.nextInt(seed % 2 == 0 ? 61 : 3);
                r.go("level(" + cell + ", " + levels[cell] + ")");
            }
            int[] needs = new int[24];
            int[] worths = new int[24];
            for (int rod = 0; rod < 24; rod++) {
                int cell = random.nextInt(30);
                int height = Math.max(0, h - random.nextInt(seed < 3 ? 30 : 8) + 2);
                r.go("rod(" + cell + ", 0, " + height + ")");
                needs[rod] = h - height;
                for (int i = 6 * (cell / 6); i < 6 * (cell / 6) + 6; i++) {
                    worths[rod] += Math.max(0, h - levels[i]);
                }
            }
            for (int hands : new int[] {0, 5, 37, 200}) {
                long[] best = {0, 0};
                search(needs, worths, 0, hands, new long[] {0, 0}, best);
                int takes = 0;
                for (int rod = 0; rod < 24; rod++) {
                    takes += (best[1] >> rod & 1) == 1 ? needs[rod] : 0;
                }
                r.due("works(" + hands + ", 0)", best[0]).due("works(" + hands + ", 1)", best[1]).due("works(" + hands + ", 2)", takes);
            }
        }
    }

    private static void search(int[] needs, int[] worths, int rod, int hands, long[] now, long[] best) {
        if (now[0] > best[0] || now[0] == best[0] && now[1] < best[1]) {
            best[0] = now[0];
            best[1] = now[1];
        }
        if (rod == 24) {
            return;
        }
        search(needs, worths, rod + 1, hands, now, best);
        boolean third = rod >= 2 && (now[1] >> (rod - 2) & 3) == 3;
        if (needs[rod] > 0 && needs[rod] <= hands && !third) {
            long[] then = {now[0] + worths[rod], now[1] | 1L << rod};
            search(needs, worths, rod + 1, hands - needs[rod], then, best);
        }
    }

    private static void scots() {
        Run r = new Run("promise 27");
        r.due("scot(100000, 0)", 100000).due("scot(0, 0)", 0).due("scot(100000, 1)", 0);
        // 341, 12, 7 of 360, as in the runs under ../shared/tests; 100: 94 and 260, 3 and 120, 1 and 340.
        r.go("sell(0, 0, 2, 7, 0)", "sell(1, 0, 1, 12, 0)").due("scot(100, 0)", 95).due("scot(100, 1)", 3).due("scot(100, 2)", 2);
        r.due("scot(100000, 0)", 94722).due("scot(100000, 1)", 3333).due("scot(100000, 2)", 1945).due("scot(360, 0)", 341).due("scot(1, 0)", 1);
        r.each("scot(#, 0)", BAD, -1, 100001, Integer.MIN_VALUE, Integer.MAX_VALUE);
        r.each("scot(0, #)", NONE, -1, 8, Integer.MIN_VALUE, Integer.MAX_VALUE).due("scot(-1, 8)", NONE);
        // Of a later day: not yet.
        r.go("sell(5, 0, 3, 12, 2)").due("scot(360, 3)", 0).go("pass(1)").due("scot(360, 3)", 0).go("pass(1)").due("scot(360, 3)", 12);
        // All OWNERS alike, 45 each: 7 of 15 by the least remainders' owners.
        Run s = new Run("promise 27, alike");
        s.sellAlike();
        for (int owner = 0; owner < 8; owner++) {
            s.due("held(-1, " + owner + ", 0, 28)", 45).due("scot(15, " + owner + ")", owner < 7 ? 2 : 1).due("scot(8, " + owner + ")", 1);
            s.due("scot(3, " + owner + ")", owner < 3 ? 1 : 0);
        }
    }

    private static void counts() {
        Run r = new Run("promise 28");
        r.each("count(#)", NONE, -1, 11, Integer.MIN_VALUE, Integer.MAX_VALUE);
        r.go("rod(0, 1, 38)", "rod(0, 1, 99)", "sell(0, 0, 1, 1, 0)", "herd(29)", "herd(28)", "herd(27)").custom("h 99", 0).custom("h 98", 0);
        r.go("view(0)", "tide(40, 0, 1)", "pass(6)").tape("abc");
        int[] due = {7, 2, 1, 2, 3, 1, 200, 0, 200, 3, 1};
        for (int what = 0; what < due.length; what++) {
            r.due("count(" + what + ")", due[what]);
        }
    }
}
