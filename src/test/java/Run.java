import java.lang.reflect.Method;
import java.nio.file.Files;
import java.nio.file.Path;
import java.util.ArrayList;
import java.util.List;

/** One run of calls, told as texts, on a new MarshCourt; a test program makes several and ends with finish(). */
final class Run {
    /** What the document promises of one object: nothing is due behind so many calls. */
    private static final int MOST_CALLS = 512;
    private static final String DOCUMENT = document();
    private static final Method[] METHODS = MarshCourt.class.getDeclaredMethods();

    private static int checked = 0;
    private static int wrong = 0;

    final MarshCourt court = new MarshCourt();
    private final String name;
    private int calls;

    Run(String name) {
        this.name = name;
    }

    /** A run for one sentence of the document: it is seen if the document, where it is at hand, says it no longer. */
    static Run of(String sentence) {
        holds("the document", "it says '" + sentence + "'", DOCUMENT.isEmpty() || DOCUMENT.contains(sentence));
        return new Run(sentence);
    }

    private static String document() {
        try {
            return Files.readString(Path.of("../shared/DOC.md")).replaceAll("\\s+", " ");
        } catch (java.io.IOException e) {
            return "";
        }
    }

    /** Makes a call, written as in Java with numbers only, and holds its answer against the one that is due. */
    Run due(String call, long want) {
        equal(name, call, call(call), want);
        return this;
    }

    /** Makes calls whose answers do not matter here; none of them may be a refusal. */
    Run go(String... calls) {
        for (String call : calls) {
            long got = call(call);
            if (got == MarshCourt.NONE || got == MarshCourt.BAD || got == MarshCourt.STATE || got == MarshCourt.FULL) {
                equal(name, call + " (no refusal is due)", got, 0);
            }
        }
        return this;
    }

    /** Feeds a text to THE TAPE. */
    Run tape(String text) {
        for (int from = 0; from < text.length(); from += 8) {
            int to = Math.min(text.length(), from + 8);
            long w = 0;
            for (int i = from; i < to; i++) {
                w = w << 8 | text.charAt(i);
            }
            go("feed(" + w + ", " + (to - from) + ")");
        }
        return this;
    }

    /** Puts a text in force, which must be a CUSTOM. */
    Run custom(String text, int day) {
        long before = call("count(3)");
        return tape(text).due("court(" + day + ")", before);
    }

    /** Hands a text to a court that must refuse it at a place. */
    Run faulty(String text, int place) {
        tape(text);
        equal(name, "court of '" + text + "'", call("court(0)"), -10 - place);
        return due("count(9)", 0);
    }

    /** By 28 SALES on DAY 0 each OWNER has 45 PARTS. */
    Run sellAlike() {
        for (int owner = 1; owner < 8; owner++) {
            for (int cell = 4 * owner - 3; cell <= 4 * owner; cell++) {
                go("sell(" + cell + ", 0, " + owner + ", " + (cell == 4 * owner ? 9 : 12) + ", 0)");
            }
        }
        return this;
    }

    /** Each call with each of the given numbers in place of its '#'. */
    Run each(String call, long want, int... numbers) {
        for (int n : numbers) {
            due(call.replace("#", Integer.toString(n)), want);
        }
        return this;
    }

    /** A call with numbers on both sides of a span in place of its '#', the nearest and the farthest. */
    Run outside(String call, long want, int least, int most) {
        return each(call, want, least - 1, most + 1, Integer.MIN_VALUE, Integer.MAX_VALUE);
    }

    long call(String call) {
        calls++;
        if (calls == MOST_CALLS + 1) {
            holds(name, "a run has " + MOST_CALLS + " calls at most", false);
        }
        int open = call.indexOf('(');
        String inside = call.substring(open + 1, call.lastIndexOf(')')).trim();
        String[] words = inside.isEmpty() ? new String[0] : inside.split("\\s*,\\s*");
        Method method = method(call.substring(0, open), words.length);
        List<Object> args = new ArrayList<>();
        for (int i = 0; i < words.length; i++) {
            boolean wide = method.getParameterTypes()[i] == long.class;
            args.add(wide ? (Object) Long.valueOf(words[i]) : (Object) Integer.valueOf(words[i]));
        }
        try {
            return ((Number) method.invoke(court, args.toArray())).longValue();
        } catch (ReflectiveOperationException e) {
            throw new IllegalStateException(name + ": " + call, e);
        }
    }

    private static Method method(String name, int size) {
        for (Method m : METHODS) {
            if (m.getName().equals(name) && m.getParameterCount() == size) {
                return m;
            }
        }
        throw new IllegalStateException("no call " + name + " with " + size + " numbers");
    }

    static void equal(String run, String call, long got, long want) {
        checked++;
        if (got != want) {
            wrong++;
            System.out.println(run + ": " + call + " answered " + got + ", due is " + want);
        }
    }

    static void holds(String run, String what, boolean true1) {
        checked++;
        if (!true1) {
            wrong++;
            System.out.println(run + ": not so: " + what);
        }
    }

    static void finish() {
        System.out.println(checked + " answers looked at, " + wrong + " not as due");
        if (wrong != 0) {
            System.exit(1);
        }
    }
}
