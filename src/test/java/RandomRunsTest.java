import java.lang.reflect.InvocationTargetException;
import java.lang.reflect.Method;
import java.util.ArrayList;
import java.util.Arrays;
import java.util.List;
import java.util.Random;

/** Long runs of calls, most of them right and some wrong, held against SlowCourt; the seeds are fixed. */
public final class RandomRunsTest {
    private static final int RUNS = 260, CALLS = 512;
    private static final String[] WORDS = {"r 0-5 front", "r 3-9 acres", "r 0-23 acres", "r 2-2 own 4", "r 9-3 front",
        "h 0", "h 50", "h 99", "f 7", "f 999", "v 1", "v 99", "v 20", "s 0", "s 999", "h 70", "r 1-12 front",
        "r 4-20 acres", "r 7-23 own 7"};
    private static final String SIGNS = "rhfvs 0123456789-;frontownacres";

    private final Random random;
    private final int mood;
    private final int mostRods;
    private final MarshCourt fast = new MarshCourt();
    private final SlowCourt slow = new SlowCourt();
    private final List<long[]> feeds = new ArrayList<>();

    private RandomRunsTest(int seed) {
        random = new Random(seed);
        mood = seed % 5;
        mostRods = seed % 7 == 0 ? 24 : 9;
    }

    public static void main(String[] args) throws Exception {
        for (int seed = 0; seed < RUNS; seed++) {
            new RandomRunsTest(seed).run(seed);
        }
        Run.finish();
    }

    private void run(int seed) throws Exception {
        for (int i = 0; i < CALLS; i++) {
            String name = feeds.isEmpty() ? nextName(i) : "feed";
            long[] args = arguments(name);
            if (skipped(name)) {
                continue;
            }
            String call = name + Arrays.toString(args);
            long want = answer(slow, name, args);
            long got = answer(fast, name, args);
            Run.equal("seed " + seed + ", call " + i, call, got, want);
            if (got != want) {
                return;
            }
        }
        compareAll(seed);
    }

    /** More RODS than some are too many for SlowCourt's way to plan WORKS. */
    private boolean skipped(String name) {
        return name.equals("works") && slow.rods.size() > 12 || name.equals("rod") && slow.rods.size() > mostRods;
    }

    private String nextName(int i) {
        if (i < 12) {
            return i % 3 == 2 ? "herd" : i % 3 == 1 ? "level" : "rod";
        }
        String[] common = {"level", "cell", "sell", "sell", "held", "rod", "sluice", "about", "gate", "gate", "herd",
            "drive", "where", "way", "way", "tide", "tide", "pass", "year", "custom text", "custom text", "court",
            "court", "custom", "mender", "mender", "view", "view", "mend", "fault", "fines", "mended", "works",
            "scot", "count", "count", "feed"};
        String[] moody = {"tide", "sell", "view", "gate", "custom text"};
        String name = random.nextInt(4) == 0 ? moody[mood] : common[random.nextInt(common.length)];
        if (name.equals("custom text")) {
            planFeeds();
            return "feed";
        }
        return name;
    }

    private void planFeeds() {
        StringBuilder text = new StringBuilder();
        int clauses = 1 + random.nextInt(random.nextInt(4) == 0 ? 12 : 5);
        for (int i = 0; i < clauses; i++) {
            text.append(i == 0 ? "" : ";").append(WORDS[random.nextInt(WORDS.length)]);
        }
        if (random.nextInt(3) == 0) {
            spoil(text);
        }
        for (int from = 0; from < text.length(); from += 8) {
            int to = Math.min(text.length(), from + 8);
            long w = random.nextLong();
            for (int i = from; i < to; i++) {
                w = w << 8 | text.charAt(i);
            }
            feeds.add(new long[] {w, to - from});
        }
    }

    private void spoil(StringBuilder text) {
        int at = random.nextInt(text.length() + 1);
        char sign = random.nextInt(10) == 0 ? (char) random.nextInt(256) : SIGNS.charAt(random.nextInt(SIGNS.length()));
        int how = random.nextInt(3);
        if (how == 0 || at == text.length()) {
            text.insert(at, sign);
        } else if (how == 1) {
            text.setCharAt(at, sign);
        } else if (text.length() > 1) {
            text.deleteCharAt(at);
        }
    }

    private long[] arguments(String name) {
        if (name.equals("feed") && !feeds.isEmpty()) {
            return feeds.remove(0);
        }
        int rods = slow.rods.size();
        int sales = slow.sales.size();
        int courts = slow.courts.size();
        int herds = slow.herds.size();
        switch (name) {
            case "level": return of(in(0, 29), in(0, 60));
            case "cell": return of(in(0, 29), in(0, 4));
            case "sell": return of(in(0, mood == 1 ? 3 : 29), seller(), in(0, 7), in(1, random.nextBoolean() ? 12 : 3), someDay());
            case "held": return of(in(-1, 29), in(0, 7), someDay(), in(0, sales));
            case "rod": return of(in(0, 29), in(0, 2), in(0, 99));
            case "sluice": return of(in(0, rods - 1), in(0, 3));
            case "about": return of(in(0, rods - 1), in(0, 7));
            case "gate": return gateArguments();
            case "herd": return of(in(0, 29));
            case "drive": return driveArguments(herds);
            case "where": return of(in(0, herds - 1));
            case "way": return of(in(0, herds - 1), in(0, 60), in(0, 1));
            case "tide": return of(in(0, mood == 0 || random.nextInt(4) == 0 ? 120 : 50), in(0, 3), in(0, random.nextBoolean() ? 5 : 50));
            case "pass": return of(in(1, mood == 4 ? 400 : 20));
            case "year": return of();
            case "feed": return of(random.nextLong(), in(1, 8));
            case "court": return of(someDay());
            case "custom": return of(someDay(), in(0, courts), in(0, 4));
            case "mender": return of(in(0, rods - 1), someDay(), in(0, courts), in(0, sales));
            case "view": return of(in(0, rods - 1));
            case "mend": return of(in(0, rods - 1), in(0, 7), in(1, random.nextBoolean() ? 99 : 20));
            case "fault": return of(in(0, rods - 1), in(0, 3));
            case "fines":
            case "mended": return of(in(0, 7));
            case "works": return of(in(0, 200), in(0, 2));
            case "scot": return of(in(0, 100000), in(0, 7));
            default: return of(in(0, 10));
        }
    }

    private long seller() {
        return random.nextInt(3) == 0 ? in(0, 7) : 0;
    }

    private long[] gateArguments() {
        long a = in(0, 29);
        long b = random.nextInt(9) == 0 ? in(0, 29) : a + new int[] {1, -1, 6, -6}[random.nextInt(4)];
        return of(a, b, random.nextInt(3) == 0 ? in(0, 1) : 0);
    }

    private long[] driveArguments(int herds) {
        long herd = in(0, herds - 1);
        if (herd < 0 || herd >= herds || random.nextInt(6) == 0) {
            return of(herd, in(0, 29));
        }
        return of(herd, slow.herds.get((int) herd).cell + new int[] {1, -1, 6, -6}[random.nextInt(4)]);
    }

    private long someDay() {
        return random.nextInt(5) == 0 ? in(0, 9999) : in(0, 30) + Math.max(0, slow.day - 15);
    }

    private static long[] of(long... args) {
        return args;
    }

    /** Mostly a number from least to most, now and then an edge, and seldom a wrong one. */
    private long in(int least, int most) {
        int dice = random.nextInt(60);
        if (dice == 0) {
            return least - 1L;
        }
        if (dice == 1) {
            return most + 1L;
        }
        if (dice == 2) {
            return new int[] {Integer.MIN_VALUE, Integer.MAX_VALUE, -1000, 100000000}[random.nextInt(4)];
        }
        if (dice < 6 || most <= least) {
            return random.nextBoolean() ? least : most;
        }
        return least + random.nextInt(most - least + 1);
    }

    private static long answer(Object court, String name, long[] args) throws Exception {
        for (Method m : court.getClass().getDeclaredMethods()) {
            if (m.getName().equals(name) && m.getParameterCount() == args.length) {
                Object[] boxed = new Object[args.length];
                for (int i = 0; i < args.length; i++) {
                    boolean wide = m.getParameterTypes()[i] == long.class;
                    boxed[i] = wide ? (Object) args[i] : (Object) (int) args[i];
                }
                try {
                    return ((Number) m.invoke(court, boxed)).longValue();
                } catch (InvocationTargetException e) {
                    throw new IllegalStateException(name + Arrays.toString(args), e.getCause());
                }
            }
        }
        throw new IllegalStateException("no call " + name);
    }

    /** At the end of a run all that can be asked is asked. */
    private void compareAll(int seed) throws Exception {
        String run = "seed " + seed + ", at its end";
        ask(run, "count", 10);
        ask(run, "cell", 29, 4);
        ask(run, "about", slow.rods.size(), 7);
        ask(run, "where", slow.herds.size());
        ask(run, "fault", slow.rods.size(), 3);
        ask(run, "fines", 7);
        ask(run, "mended", 7);
        for (int sum : new int[] {1, 99, 100000}) {
            long all = 0;
            for (int owner = 0; owner < 8; owner++) {
                all += fast.scot(sum, owner);
            }
            Run.equal(run, "the scots of " + sum + " together", all, sum);
        }
    }

    private void ask(String run, String name, int... most) throws Exception {
        int second = most.length > 1 ? most[1] : 0;
        for (int a = 0; a <= most[0]; a++) {
            for (int b = 0; b <= second; b++) {
                long[] args = most.length > 1 ? of(a, b) : of(a);
                Run.equal(run, name + Arrays.toString(args), answer(fast, name, args), answer(slow, name, args));
            }
        }
    }
}
