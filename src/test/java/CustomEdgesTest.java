/** The boundary cases of section 4 of the document and of promises 17 to 20, one test for each sentence. */
public final class CustomEdgesTest {
    private static final int NONE = MarshCourt.NONE, BAD = MarshCourt.BAD, FULL = MarshCourt.FULL, COMMON = -5;

    public static void main(String[] args) {
        feedNumbers();
        feedOrder();
        tapeSize();
        tapeFull();
        firstBytes();
        secondBytes();
        tenClauses();
        betweenClauses();
        rodNumbers();
        rodsThatHaveIt();
        ownNumbers();
        lettersAndNumbers();
        oneBlank();
        leadingZero();
        endsTooEarly();
        tooGreat();
        tooGreatAndLonger();
        emptyTape();
        tapeIsEmptyThen();
        courtDays();
        twelveCourts();
        tapeStays();
        greatestDay();
        lastEntered();
        knownCourts();
        lastClause();
        lastClauseThatHasTheRod();
        withoutClause();
        customRefusals();
        customOnNoDay();
        mostParts();
        partsOfThatDay();
        ownWithoutParts();
        acresCut();
        acresOfAll24();
        acresRemainders();
        acresOfSeveralTheLeast();
        withoutSuchClause();
        menderRefusals();
        Run.finish();
    }

    // ---- THE TAPE

    private static void feedNumbers() {
        Run r = Run.of("The n lowest bytes of w, the highest first, come behind THE TAPE's: how many it has. BAD: n not 1 .. 8; FULL.");
        r.due("feed(0, 1)", 1).due("feed(0, 8)", 9).outside("feed(0, #)", BAD, 1, 8).due("count(9)", 9);
        r.due("feed(" + Long.MIN_VALUE + ", 8)", 17).due("feed(" + Long.MAX_VALUE + ", 1)", 18).due("feed(-1, 9)", BAD).due("count(9)", 18);
    }

    private static void feedOrder() {
        // Of "xxh 12345": the 8, 4, 3, 1 lowest.
        Run r = new Run("the highest first").due("feed(" + 0x78782068203132L + ", 4)", 4).due("court(0)", 0).due("custom(0, 1, 1)", 12);
        r.due("feed(" + 0xff6820L + ", 2)", 2).due("feed(" + 0xff37L + ", 1)", 3).due("feed(" + 0x35L + ", 1)", 4).due("court(0)", 1).due("custom(0, 2, 1)", 75);
        r.due("feed(" + 0x6820313b66203238L + ", 8)", 8).due("court(0)", 2).due("custom(0, 3, 1)", 1).due("custom(0, 3, 2)", 28);
        // A byte of 0 counts where it is asked for, and the highest bit is a bit as others.
        r.due("feed(104, 2)", 2).due("court(0)", -10).due("feed(" + (0x80L << 56 | 0x203500L) + ", 8)", 8).due("court(0)", -10);
    }

    private static void tapeSize() {
        Run r = Run.of("THE TAPE (bytes, 160 at most)");
        for (int i = 1; i <= 20; i++) {
            r.due("feed(0, 8)", 8 * i);
        }
        r.due("count(9)", 160).each("feed(0, #)", FULL, 1, 2, 7, 8).each("feed(0, #)", BAD, 0, 9).due("count(9)", 160);
        r.due("court(0)", -10).due("count(9)", 0).due("feed(0, 8)", 8);
    }

    private static void tapeFull() {
        for (int n = 1; n <= 8; n++) {
            Run r = new Run("the last " + n + " bytes");
            for (int i = 0; i < 160 - n; i++) {
                r.due("feed(104, 1)", i + 1);
            }
            if (n < 8) {
                r.due("feed(0, " + (n + 1) + ")", FULL).due("count(9)", 160 - n);
            }
            r.due("feed(0, " + n + ")", 160).due("feed(0, 1)", FULL).due("count(9)", 160).due("court(0)", -11);
        }
    }

    // ---- CLAUSES

    private static int answer(String text) {
        MarshCourt m = new MarshCourt();
        for (char sign : text.toCharArray()) {
            m.feed(sign, 1);
        }
        return m.court(0);
    }

    private static void isCustom(String text) {
        Run.equal("a custom", "court of '" + text + "'", answer(text), 0);
    }

    private static void isFault(String text, int place) {
        Run.equal("no custom", "court of '" + text + "'", answer(text), -10 - place);
    }

    private static void firstBytes() {
        for (int sign = 0; sign < 256; sign++) {
            boolean letter = "rhfvs".indexOf(sign) >= 0;
            isFault(String.valueOf((char) sign), letter ? 1 : 0);
            isFault("h 5;" + (char) sign, letter ? 5 : 4);
        }
    }

    private static void secondBytes() {
        for (int sign = 0; sign < 256; sign++) {
            for (char letter : "rhfvs".toCharArray()) {
                isFault("" + letter + (char) sign, sign == ' ' ? 2 : 1);
            }
            boolean digit = sign >= '0' && sign <= '9';
            if (!digit) {
                isFault("h " + (char) sign, 2);
                isFault("h 5" + (char) sign, sign == ';' ? 4 : 3);
                isFault("r 1" + (char) sign, sign == '-' ? 4 : 3);
                isFault("r 1-2" + (char) sign, sign == ' ' ? 6 : 5);
                isFault("r 1-2 own 3" + (char) sign, sign == ';' ? 12 : 11);
            }
            isFault("r 1-2 " + (char) sign, "foa".indexOf(sign) >= 0 ? 7 : 6);
        }
    }

    private static void tenClauses() {
        Run.of("CLAUSES, 10 at most, with ; between");
        String[] clauses = {"h 1", "r 10-20 acres", "f 999", "v 1", "s 0", "r 0-0 front", "r 3-4 own 5"};
        for (String clause : clauses) {
            String text = clause;
            for (int i = 2; i <= 10; i++) {
                text += ";" + clause;
                isCustom(text);
            }
            isFault(text + ";", text.length());
            isFault(text + ";" + (clause.length() < 10 ? clause : "h 1"), text.length());
        }
        // 1 is a CUSTOM as well, and the tenth counts.
        isCustom("h 1");
        Run r = new Run("the tenth").custom("h 1;h 2;h 3;h 4;h 5;h 6;h 7;h 8;h 9;h 99", 0).due("custom(0, 1, 1)", 99);
        // The longest: 139 bytes, the tenth rule being the one that has the ROD.
        String rules = "";
        for (int i = 0; i < 10; i++) {
            rules += (i == 0 ? "" : ";") + "r 1" + i + "-23 own " + i % 8;
        }
        Run.equal("the longest", "bytes", rules.length(), 139);
        Run s = new Run("the longest");
        for (int rod = 0; rod < 24; rod++) {
            s.go("rod(0, 0, 0)");
        }
        s.custom(rules, 0).due("mender(9, 0, 1, 0)", COMMON).due("mender(10, 0, 1, 0)", 0).due("mender(18, 0, 1, 0)", 0).due("mender(19, 0, 1, 0)", 1);
        s.due("mender(23, 0, 1, 0)", 1);
    }

    private static void betweenClauses() {
        isCustom("h 1;f 2");
        isFault("h 1;;f 2", 4);
        isFault(";h 1", 0);
        isFault("h 1;", 4);
        isFault("h 1,f 2", 3);
        isFault("h 1:f 2", 3);
        isFault("h 1f 2", 3);
        isFault("r 1-2 frontr 1-2 front", 11);
        isFault("r 1-2 front:", 11);
    }

    private static void rodNumbers() {
        Run.of("r a-b front, r a-b own n, r a-b acres (RODS a to b, 0 .. 23 each; none if b is below a; n an OWNER)");
        for (int n = 0; n <= 99; n++) {
            for (String how : new String[] {"front", "own 7", "acres"}) {
                String[] texts = {"r " + n + "-5 " + how, "r 5-" + n + " " + how, "r 23-" + n + " " + how};
                if (n <= 23) {
                    isCustom(texts[0]);
                    isCustom(texts[1]);
                    isCustom(texts[2]);
                } else {
                    isFault(texts[0], 3);
                    isFault(texts[1], 5);
                    isFault(texts[2], 6);
                }
            }
        }
    }

    private static void rodsThatHaveIt() {
        int[][] spans = {{0, 0}, {23, 23}, {0, 23}, {5, 4}, {5, 5}, {5, 6}, {23, 0}, {22, 23}, {1, 0}, {0, 1}};
        for (int[] span : spans) {
            Run r = new Run("rods " + span[0] + " to " + span[1]);
            for (int rod = 0; rod < 24; rod++) {
                r.go("rod(0, 0, 0)");
            }
            r.custom("r " + span[0] + "-" + span[1] + " own 6", 0).custom("r " + span[0] + "-" + span[1] + " acres", 0);
            r.custom("r " + span[0] + "-" + span[1] + " front", 0);
            for (int rod = 0; rod < 24; rod++) {
                boolean has = span[0] <= rod && rod <= span[1];
                r.due("mender(" + rod + ", 0, 1, 0)", has ? 6 : COMMON).due("mender(" + rod + ", 0, 2, 0)", has ? 0 : COMMON);
                r.due("mender(" + rod + ", 0, 3, 0)", has ? 0 : COMMON);
            }
        }
    }

    private static void ownNumbers() {
        for (int n = 0; n <= 9; n++) {
            if (n <= 7) {
                Run r = new Run("own " + n).go("rod(0, 0, 0)").custom("r 0-0 own " + n, 0).due("mender(0, 0, 1, 0)", n);
            } else {
                isFault("r 0-0 own " + n, 10);
            }
            // Two digits are too great by the second, if not by the first.
            isFault("r 0-0 own " + n + "0", n <= 7 ? 11 : 10);
        }
    }

    private static void lettersAndNumbers() {
        numbers("h n (HEIGHT that RODS must have, 0 .. 99)", 'h', 0, 99, 1);
        numbers("f n (FINE, 0 .. 999)", 'f', 0, 999, 2);
        numbers("v n (VIEWS, each so many DAYS, 1 .. 99)", 'v', 1, 99, 3);
        numbers("s n (SCOT, 0 .. 999)", 's', 0, 999, 4);
    }

    private static void numbers(String sentence, char letter, int least, int most, int what) {
        Run.of(sentence);
        for (int n = 0; n <= 10 * most + 9; n++) {
            String text = letter + " " + n;
            if (n < least) {
                isFault(text, 2);
            } else if (n > most) {
                isFault(text, text.length() - 1);
            } else {
                MarshCourt m = new MarshCourt();
                for (char sign : text.toCharArray()) {
                    m.feed(sign, 1);
                }
                Run.equal(sentence, text, m.court(0), 0);
                Run.equal(sentence, text + " is read", m.custom(0, 1, what), n);
            }
        }
    }

    private static void oneBlank() {
        Run.of("one blank between words, none else");
        isFault(" h 5", 0);
        isFault("h5", 1);
        isFault("h  5", 2);
        isFault("h 5 ", 3);
        isFault("h 5 ;f 6", 3);
        isFault("h 5; f 6", 4);
        isFault("h 1 2", 3);
        isFault("r1-2 front", 1);
        isFault("r  1-2 front", 2);
        isFault("r 1 -2 front", 3);
        isFault("r 1- 2 front", 4);
        isFault("r 1-2front", 5);
        isFault("r 1-2  front", 6);
        isFault("r 1-2 front ", 11);
        isFault("r 1-2 own3", 9);
        isFault("r 1-2 own  3", 10);
        isFault("r 1-2 own 3 ", 11);
        isFault("r 1-2 acres ", 11);
        isFault("h\t5", 1);
    }

    private static void leadingZero() {
        Run.of("numbers without a 0 ahead of another digit");
        for (int digit = 0; digit <= 9; digit++) {
            isFault("h 0" + digit, 3);
            isFault("f 0" + digit, 3);
            isFault("s 0" + digit, 3);
            isFault("r 0" + digit + "-1 front", 3);
            isFault("r 1-0" + digit + " front", 5);
            isFault("r 1-1 own 0" + digit, 11);
            // No v begins with a 0 at all.
            isFault("v 0" + digit, 2);
        }
        isCustom("h 0");
        isCustom("f 100");
        isCustom("s 900");
        isCustom("v 10");
        isCustom("r 0-10 own 0");
        isCustom("r 20-0 acres");
    }

    private static void endsTooEarly() {
        Run.of("FAULT: the place of the first byte with which no CUSTOM can go on (the size of THE TAPE, if it ends too early");
        String text = "r 0-23 front;h 9;r 10-9 own 7;f 999;v 1;s 0;r 5-6 acres";
        String[] whole = {"r 0-23 front", ";h 9", ";r 10-9 own 7", ";f 9", "9", "9", ";v 1", ";s 0", ";r 5-6 acres"};
        boolean[] ends = new boolean[text.length() + 1];
        int at = 0;
        for (String piece : whole) {
            at += piece.length();
            ends[at] = true;
        }
        Run.equal("ends too early", "the pieces are the text", at, text.length());
        for (int size = 1; size <= text.length(); size++) {
            if (ends[size]) {
                isCustom(text.substring(0, size));
            } else {
                isFault(text.substring(0, size), size);
            }
        }
    }

    private static void tooGreat() {
        Run.of("a number that is too great: its last digit)");
        isFault("h 100", 4);
        isFault("f 1000", 5);
        isFault("v 100", 4);
        isFault("s 1000", 5);
        isFault("r 24-1 front", 3);
        isFault("r 1-24 front", 5);
        isFault("r 1-1 own 8", 10);
        isFault("h 100;f 1", 4);
        isFault("f 1;h 100", 8);
    }

    private static void tooGreatAndLonger() {
        // With the third digit no CUSTOM can go on, whatever comes behind it.
        isFault("h 1000", 4);
        isFault("h 99999999999", 4);
        isFault("f 12345", 5);
        isFault("v 4294967297", 4);
        isFault("r 240-1 front", 3);
        isFault("r 1-1 own 88", 10);
        isFault("h 100x", 4);
    }

    private static void emptyTape() {
        Run r = new Run("an empty tape").due("court(0)", -10).due("count(3)", 0).custom("h 1", 0).due("court(0)", -10).due("count(3)", 1);
    }

    // ---- COURTS

    private static void tapeIsEmptyThen() {
        Run r = Run.of("THE TAPE, which is empty then, is a CUSTOM in force from a DAY on: the number of the COURT; -10 less the FAULT.");
        r.tape("h 5").due("count(9)", 3).due("court(0)", 0).due("count(9)", 0).tape("h x").due("court(0)", -12).due("count(9)", 0).due("count(3)", 1);
        // Nothing of a text with a FAULT is left in the next one.
        r.go("rod(0, 0, 0)").tape("h 9;f 8;v 7;s 6;r 0-0 own 5;").due("court(0)", -38).custom("r 1-1 own 1", 3).due("mender(0, 3, 2, 0)", -5);
        r.due("custom(3, 2, 1)", 0).due("custom(3, 2, 2)", 0).due("custom(3, 2, 3)", 99).due("custom(3, 2, 4)", 0);
        Run s = new Run("one by one").custom("h 5", 0);
        s.tape("f 7").due("court(0)", 1).due("custom(0, 2, 2)", 7).due("custom(0, 2, 1)", 0).due("count(9)", 0).due("count(3)", 2);
    }

    private static void courtDays() {
        Run r = Run.of("BAD: day; FULL (THE TAPE stays with both).").tape("h 5").outside("court(#)", BAD, 0, 9999).due("count(9)", 3).due("count(3)", 0);
        r.due("court(9999)", 0).due("custom(9998, 1, 0)", NONE).due("custom(9999, 1, 0)", 0).custom("h 6", 0).due("custom(0, 2, 0)", 1);
        r.due("custom(9998, 2, 1)", 6).due("custom(9999, 2, 1)", 5);
        // BAD stands ahead of a FAULT, too: a text that is none stays.
        r.tape("x").due("court(-1)", BAD).due("count(9)", 1).due("court(0)", -10).due("count(9)", 0);
    }

    private static Run withTwelve(Run r) {
        for (int i = 0; i < 12; i++) {
            r.due("count(3)", i).tape("h " + i).due("court(" + 10 * i + ")", i);
        }
        return r;
    }

    private static void twelveCourts() {
        Run r = withTwelve(Run.of("A COURT (12 at most) puts a CUSTOM in force from a DAY on (past ones, too), entered one by one."));
        r.due("count(3)", 12).due("custom(9999, 12, 1)", 11).tape("h 50").due("court(0)", FULL).due("count(3)", 12).due("custom(9999, 13, 0)", NONE);
        r.due("custom(0, 12, 1)", 0).due("custom(110, 12, 1)", 11).due("custom(109, 12, 1)", 10);
        // Past ones: DAY 50 is over on DAY 60.
        Run s = new Run("past ones, too").go("pass(60)").custom("h 5", 50).due("custom(50, 1, 1)", 5).due("custom(49, 1, 1)", NONE).custom("h 6", 0);
        s.due("custom(49, 2, 1)", 6).custom("h 7", 60).custom("h 8", 61).due("custom(60, 4, 1)", 7).due("custom(61, 4, 1)", 8);
        // A text with a FAULT takes no number.
        Run t = new Run("faults take no number");
        for (int i = 0; i < 12; i++) {
            t.faulty("h", 1).custom("h 1", 0);
        }
        t.tape("h").due("court(0)", FULL).due("count(9)", 1);
    }

    private static void tapeStays() {
        Run r = withTwelve(new Run("the tape stays")).tape("h 5;x").due("court(0)", FULL).due("count(9)", 5).due("court(-1)", BAD).due("count(9)", 5);
        r.due("court(10000)", BAD).due("count(9)", 5).due("feed(59, 1)", 6).due("court(9999)", FULL).due("count(9)", 6);
    }

    private static void greatestDay() {
        Run r = Run.of("of the first so many that with the greatest DAY not above it, of several the last entered");
        r.custom("h 1", 10).custom("h 2", 20).custom("h 3", 15);
        r.due("custom(9, 3, 0)", NONE).due("custom(10, 3, 0)", 0).due("custom(14, 3, 0)", 0).due("custom(15, 3, 0)", 2).due("custom(19, 3, 0)", 2);
        r.due("custom(20, 3, 0)", 1).due("custom(21, 3, 0)", 1).due("custom(9999, 3, 0)", 1).due("custom(0, 3, 0)", NONE);
    }

    private static void lastEntered() {
        Run r = new Run("of several the last entered").custom("h 1", 10).custom("h 2", 10).custom("h 3", 9).custom("h 4", 10).custom("h 5", 9);
        r.due("custom(10, 1, 0)", 0).due("custom(10, 2, 0)", 1).due("custom(10, 3, 0)", 1).due("custom(10, 4, 0)", 3).due("custom(10, 5, 0)", 3);
        r.due("custom(9, 2, 0)", NONE).due("custom(9, 3, 0)", 2).due("custom(9, 4, 0)", 2).due("custom(9, 5, 0)", 4);
    }

    private static void knownCourts() {
        Run r = Run.of("THE CUSTOM of a DAY as was known behind so many COURTS").due("custom(0, 0, 0)", NONE).due("custom(0, 1, 0)", NONE).custom("h 1", 5);
        r.due("custom(5, 0, 0)", NONE).due("custom(5, 1, 0)", 0).due("custom(5, 2, 0)", NONE).custom("h 2", 3);
        r.due("custom(4, 1, 0)", NONE).due("custom(4, 2, 0)", 1).due("custom(4, 3, 0)", NONE).due("custom(5, 2, 0)", 0);
    }

    private static void lastClause() {
        Run r = Run.of("The last CLAUSE of a letter counts (of r: the last that has the ROD); without one h, f, s are 0, v 99.");
        r.custom("h 1;f 2;v 3;s 4;h 5;f 6;v 7;s 8", 0).due("custom(0, 1, 1)", 5).due("custom(0, 1, 2)", 6).due("custom(0, 1, 3)", 7).due("custom(0, 1, 4)", 8);
        r.custom("h 99;h 0;f 999;f 0;v 99;v 1;s 999;s 0", 0).due("custom(0, 2, 1)", 0).due("custom(0, 2, 2)", 0).due("custom(0, 2, 3)", 1).due("custom(0, 2, 4)", 0);
    }

    private static void lastClauseThatHasTheRod() {
        Run r = new Run("of r: the last that has the ROD").go("rod(0, 0, 0)", "rod(0, 0, 0)", "rod(0, 0, 0)", "rod(0, 0, 0)");
        r.custom("r 0-3 own 1;r 1-2 own 2;r 2-2 own 3;r 3-2 own 4", 0);
        r.due("mender(0, 0, 1, 0)", 1).due("mender(1, 0, 1, 0)", 2).due("mender(2, 0, 1, 0)", 3).due("mender(3, 0, 1, 0)", 1);
        // A later, wider one stands ahead of an earlier, narrower one; other letters between do not matter.
        r.custom("r 2-2 own 3;h 5;r 0-2 own 6;v 7", 0).due("mender(2, 0, 2, 0)", 6).due("mender(3, 0, 2, 0)", COMMON);
        // Acres deals the RODS of its own CLAUSE, though a later one has some of them.
        r.go("sell(0, 0, 1, 12, 0)");
        for (int cell = 1; cell < 15; cell++) {
            r.go("sell(" + cell + ", 0, 1, 12, 0)");
        }
        r.custom("r 0-3 acres;r 0-0 own 7", 0).due("mender(0, 0, 3, 15)", 7).due("mender(1, 0, 3, 15)", 0).due("mender(2, 0, 3, 15)", 1);
    }

    private static void withoutClause() {
        Run r = new Run("without one h, f, s are 0, v 99").custom("r 0-0 front", 0).due("custom(0, 1, 1)", 0).due("custom(0, 1, 2)", 0);
        r.due("custom(0, 1, 3)", 99).due("custom(0, 1, 4)", 0).due("custom(0, 1, 0)", 0);
        // What an earlier CUSTOM said does not go on.
        r.custom("h 1;f 2;v 3;s 4", 0).custom("v 5", 0).due("custom(0, 3, 1)", 0).due("custom(0, 3, 2)", 0).due("custom(0, 3, 3)", 5).due("custom(0, 3, 4)", 0);
    }

    private static void customRefusals() {
        Run r = Run.of("what 0 the COURT, 1 h, 2 f, 3 v, 4 s. NONE: none is in force, known, what; BAD: day.").custom("h 1;f 2;v 3;s 4", 7);
        r.due("custom(7, 1, 0)", 0).due("custom(7, 1, 4)", 4).outside("custom(7, 1, #)", NONE, 0, 4).outside("custom(7, #, 0)", NONE, 0, 1);
        r.due("custom(6, 1, 0)", NONE).due("custom(7, 0, 0)", NONE).due("custom(9999, 1, 3)", 3).due("custom(10000, 1, 3)", BAD);
        r.due("custom(10000, 2, 3)", NONE).due("custom(10000, 1, 5)", NONE).due("custom(-1, 2, 0)", NONE).due("custom(-1, 1, -1)", NONE);
    }

    private static void customOnNoDay() {
        // "None is in force" is told ahead of BAD: below DAY 0 there never is one, above 9999 there is if a COURT is known.
        Run r = new Run("custom on no DAY").each("custom(#, 0, 0)", NONE, -1, 10000).custom("h 1", 0);
        r.each("custom(#, 1, 0)", NONE, -1, Integer.MIN_VALUE).each("custom(#, 1, 0)", BAD, 10000, Integer.MAX_VALUE).each("custom(#, 0, 0)", NONE, -1, 10000);
    }

    // ---- MENDER

    private static void mostParts() {
        Run r = Run.of("front: the OWNER with the most PARTS of its CELL (of several the least)").go("rod(5, 0, 0)").custom("r 0-0 front", 0);
        r.due("mender(0, 0, 1, 0)", 0).go("sell(5, 0, 4, 6, 0)").due("mender(0, 0, 1, 1)", 0).go("sell(5, 0, 3, 1, 0)").due("mender(0, 0, 1, 2)", 4);
        // 0: 4, 3: 4, 4: 4; then 0: 3, 3: 4, 4: 5; then 0: 0, 3: 4, 7: 4, 4: 4; all to 7.
        r.go("sell(5, 0, 3, 1, 0)", "sell(5, 4, 3, 2, 0)").due("mender(0, 0, 1, 4)", 0).go("sell(5, 0, 4, 1, 0)").due("mender(0, 0, 1, 5)", 4);
        r.go("sell(5, 4, 7, 1, 0)", "sell(5, 0, 7, 3, 0)").due("mender(0, 0, 1, 7)", 3).go("sell(5, 3, 7, 1, 0)").due("mender(0, 0, 1, 8)", 7);
        r.go("sell(5, 3, 7, 3, 0)", "sell(5, 4, 7, 4, 0)").due("held(5, 7, 0, 10)", 12).due("mender(0, 0, 1, 10)", 7);
    }

    private static void partsOfThatDay() {
        Run r = Run.of("MENDER of a ROD on a DAY (as was known behind so many COURTS and SALES)").go("rod(5, 0, 0)").custom("r 0-0 front", 0);
        r.go("sell(5, 0, 4, 7, 10)").due("mender(0, 9, 1, 1)", 0).due("mender(0, 10, 1, 1)", 4).due("mender(0, 10, 1, 0)", 0).due("mender(0, 9999, 1, 1)", 4);
        // Other CELLS' PARTS do not count for front.
        r.go("sell(4, 0, 6, 12, 0)", "sell(6, 0, 6, 12, 0)").due("mender(0, 9, 1, 3)", 0).due("mender(0, 10, 1, 3)", 4);
        r.custom("r 0-0 own 2", 10).due("mender(0, 9, 2, 3)", 0).due("mender(0, 10, 2, 3)", 2).due("mender(0, 10, 1, 3)", 4).due("mender(0, 10, 0, 3)", COMMON);
    }

    private static void ownWithoutParts() {
        Run r = Run.of("own n: n").go("rod(0, 0, 0)").custom("r 0-0 own 7", 0).due("held(-1, 7, 0, 0)", 0).due("mender(0, 0, 1, 0)", 7);
        r.custom("r 0-0 own 0", 0).go("sell(0, 0, 1, 12, 0)").due("mender(0, 0, 2, 1)", 0);
    }

    /** A land of which OWNER 1 has so many CELLS whole and one part of one more CELL. */
    private static Run shared(String name, int rods, int cells, int more) {
        Run r = new Run(name);
        for (int rod = 0; rod < rods; rod++) {
            r.go("rod(0, 0, 0)");
        }
        for (int cell = 0; cell < cells; cell++) {
            r.go("sell(" + cell + ", 0, 1, 12, 0)");
        }
        return more == 0 ? r : r.go("sell(29, 0, 1, " + more + ", 0)");
    }

    private static void acresCut() {
        Run.of("each so many as the PARTS that it HELD of all CELLS times how many RODS, by 360, cut");
        // Of 3 RODS: OWNER 1 has 120 PARTS: 1 and 0 left over; 0 has 240: 2.
        Run r = shared("120 of 360, 3 rods", 3, 10, 0).custom("r 0-2 acres", 0);
        r.due("mender(0, 0, 1, 10)", 0).due("mender(1, 0, 1, 10)", 0).due("mender(2, 0, 1, 10)", 1);
        // 119: 0 and 357, the greatest remainder: 1 all the same; 0 has 241: 2 and 3.
        Run s = shared("119 of 360, 3 rods", 3, 9, 11).custom("r 0-2 acres", 0);
        s.due("mender(1, 0, 1, 10)", 0).due("mender(2, 0, 1, 10)", 1);
    }

    private static void acresOfAll24() {
        // OWNER 1 has 15 PARTS of 360: 24 RODS give it 1, and 0 the 23 ahead of it.
        Run r = shared("24 rods", 24, 1, 3).custom("r 0-23 acres", 0).due("mender(22, 0, 1, 2)", 0).due("mender(23, 0, 1, 2)", 1).due("mender(0, 0, 1, 2)", 0);
        // All of OWNER 1's: 0 gets none, 1 from the first on.
        Run s = shared("all of one", 24, 30, 0).custom("r 0-23 acres", 0).due("mender(0, 0, 1, 30)", 1).due("mender(23, 0, 1, 30)", 1).due("mender(0, 0, 1, 0)", 0);
        // RODS that are not there are dealt, too: of 24 OWNER 0 has 12, though 2 are there.
        Run t = shared("rods that are not there", 13, 15, 0).custom("r 0-23 acres", 0).due("mender(11, 0, 1, 15)", 0).due("mender(12, 0, 1, 15)", 1);
        // The place within the CLAUSE counts, not the number: RODS 10 to 12, 0 has 2 of 3.
        t.custom("r 10-12 acres", 0).due("mender(9, 0, 2, 15)", COMMON).due("mender(10, 0, 2, 15)", 0).due("mender(11, 0, 2, 15)", 0).due("mender(12, 0, 2, 15)", 1);
    }

    private static void acresRemainders() {
        Run.of("and one more each OWNERS with the greatest remainders (of several the least) till all are dealt");
        // One ROD: the greatest remainder is the most PARTS. 181 to 179, 180 to 180, 179 to 181.
        shared("181 and 179", 1, 14, 11).custom("r 0-0 acres", 0).due("mender(0, 0, 1, 15)", 0);
        shared("180 and 180", 1, 15, 0).custom("r 0-0 acres", 0).due("mender(0, 0, 1, 15)", 0);
        shared("179 and 181", 1, 15, 1).custom("r 0-0 acres", 0).due("mender(0, 0, 1, 16)", 1);
        // 2 RODS, 89 PARTS: 178 left over against 0's 182; 90: 180 each and 0 is less; 91: 182 against 178.
        shared("89 of 360, 2 rods", 2, 7, 5).custom("r 0-1 acres", 0).due("mender(1, 0, 1, 8)", 0);
        shared("90 of 360, 2 rods", 2, 7, 6).custom("r 0-1 acres", 0).due("mender(1, 0, 1, 8)", 0);
        shared("91 of 360, 2 rods", 2, 7, 7).custom("r 0-1 acres", 0).due("mender(1, 0, 1, 8)", 1);
    }

    private static void acresOfSeveralTheLeast() {
        // 45 PARTS each: of 5 RODS none by the cut, 225 left over each: OWNERS 0 to 4; of 8 one each; of 9 OWNER 0 two.
        Run r = new Run("all alike");
        for (int rod = 0; rod < 9; rod++) {
            r.go("rod(0, 0, 0)");
        }
        r.sellAlike();
        r.custom("r 0-4 acres", 0).custom("r 0-7 acres", 0).custom("r 0-8 acres", 0).custom("r 0-6 acres", 0);
        for (int rod = 0; rod < 9; rod++) {
            r.due("mender(" + rod + ", 0, 1, 28)", rod < 5 ? rod : COMMON).due("mender(" + rod + ", 0, 2, 28)", rod < 8 ? rod : COMMON);
            r.due("mender(" + rod + ", 0, 3, 28)", rod == 0 ? 0 : rod - 1).due("mender(" + rod + ", 0, 4, 28)", rod < 7 ? rod : COMMON);
        }
    }

    private static void withoutSuchClause() {
        Run r = Run.of("Without such a CLAUSE, or a CUSTOM, nobody (COMMON).").go("rod(0, 0, 0)", "rod(0, 0, 0)").due("mender(0, 0, 0, 0)", COMMON);
        r.custom("r 1-23 own 1", 5).due("mender(0, 5, 1, 0)", COMMON).due("mender(1, 5, 1, 0)", 1).due("mender(1, 4, 1, 0)", COMMON).due("mender(1, 5, 0, 0)", COMMON);
        r.custom("h 5", 6).due("mender(1, 6, 2, 0)", COMMON).due("mender(1, 6, 1, 0)", 1).custom("r 2-1 own 3", 7).due("mender(1, 7, 3, 0)", COMMON);
    }

    private static void menderRefusals() {
        Run r = Run.of("MENDER of a ROD on a DAY as was known; -5: COMMON. NONE: courts, sales, too; BAD: day.").go("rod(0, 0, 0)").custom("r 0-0 own 3", 0);
        r.go("sell(0, 0, 1, 1, 0)").due("mender(0, 0, 1, 1)", 3).due("mender(0, 9999, 1, 0)", 3).due("mender(0, 0, 0, 1)", COMMON);
        r.outside("mender(#, 0, 1, 1)", NONE, 0, 0).outside("mender(0, 0, #, 1)", NONE, 0, 1).outside("mender(0, 0, 1, #)", NONE, 0, 1);
        r.outside("mender(0, #, 1, 1)", BAD, 0, 9999).outside("mender(0, #, 0, 0)", BAD, 0, 9999);
        r.due("mender(1, -1, 1, 1)", NONE).due("mender(0, -1, 2, 1)", NONE).due("mender(0, 10000, 1, 2)", NONE).due("mender(0, 10000, -1, -1)", NONE);
    }
}
