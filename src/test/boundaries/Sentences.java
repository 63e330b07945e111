import java.util.ArrayList;
import java.util.List;

/** What the tests of the document's sentences have in common: their form, and short forms of the calls. */
abstract class Sentences {
    static final int NO_SUCH = -1, BAD_VALUE = -2, BAD_TEXT = -3, TOO_MANY = -4, NOT_POSSIBLE = -5, NONE = -6;
    static final String SIXTY = "abcdefghijklmnopqrstuvwxyzabcdefghijklmnopqrstuvwxyzabcdefgh";

    private static final Document DOCUMENT = new Document();
    private static final List<String> FAILED = new ArrayList<>();
    private static String section = "";
    private static int tests = 0;
    private static String wrong = null;

    /** A way to a state, so that a test can have as many objects in it as it needs. */
    interface Recipe {
        FiveInks make();
    }

    interface Call {
        int on(FiveInks x);
    }

    interface Row {
        int at(int place);
    }

    // ---- tests

    /** The tests that follow belong to this section of the document; returns the one before it. */
    static String section(String name) {
        String before = section;
        section = name;
        return before;
    }

    /** A test of its own for words of the section, with ... where some are left out, and for a boundary that they name. */
    static void says(String words, String boundary, Runnable test) {
        tests++;
        wrong = null;
        for (String part : words.split(" \\.\\.\\. ")) {
            if (!DOCUMENT.says(section, part)) {
                wrong = "the document does not say so";
            }
        }
        try {
            test.run();
        } catch (RuntimeException | StackOverflowError e) {
            wrong = "thrown: " + e;
        }
        if (wrong != null) {
            FAILED.add(section + " - \"" + words + "\" - " + boundary + ": " + wrong);
        }
    }

    /** Tells what failed, and which sentences have no test; returns whether all is well. */
    static boolean report() {
        FAILED.forEach(System.out::println);
        List<String> untested = DOCUMENT.untested();
        untested.forEach(sentence -> System.out.println("no test for: " + sentence));
        System.out.println("boundaries: " + tests + " tests, " + FAILED.size() + " failed, " + untested.size()
            + " sentences without a test");
        return FAILED.isEmpty() && untested.isEmpty();
    }

    static void due(Object want, Object got) {
        if (!want.equals(got) && wrong == null) {
            wrong = "due is " + want + ", the answer was " + got;
        }
    }

    // ---- making states

    static long packed(String characters) {
        long number = 0;
        for (int i = 0; i < characters.length(); i++) {
            number = number << 8 | characters.charAt(i);
        }
        return number;
    }

    /** Puts on the pad, eight characters a call. */
    static void pad(FiveInks x, String characters) {
        for (int i = 0; i < characters.length(); i += 8) {
            String part = characters.substring(i, Math.min(i + 8, characters.length()));
            due(true, x.put(packed(part)) >= part.length());
        }
    }

    static int begin(FiveInks x, String text) {
        pad(x, text);
        return x.begin();
    }

    static int mark(FiveInks x, String marks) {
        pad(x, marks);
        return x.mark();
    }

    /** An object with this text, and all the marks of each of the pads. */
    static FiveInks with(String text, String... pads) {
        FiveInks x = new FiveInks();
        due(text.length(), begin(x, text));
        for (String marks : pads) {
            due(marks.split(",").length, mark(x, marks));
        }
        return x;
    }

    static FiveInks accepting(FiveInks x, int... marks) {
        for (int mark : marks) {
            due(true, x.accept(mark) >= 0);
        }
        return x;
    }

    static FiveInks shipped(FiveInks x) {
        due(true, x.ship() >= 0);
        return x;
    }

    /** Twenty marks, the most there can be: put in an "a" each at the gaps 0 to 19 by the ink 0. */
    static FiveInks withTwentyMarks() {
        return with("abcdefghijklmnopqrst", "0+0a,0+1a,0+2a,0+3a,0+4a,0+5a,0+6a,0+7a,0+8a,0+9a",
            "0+10a,0+11a,0+12a,0+13a,0+14a,0+15a,0+16a,0+17a", "0+18a,0+19a");
    }

    // ---- asking

    private static String row(Row letter) {
        StringBuilder found = new StringBuilder();
        int next = letter.at(0);
        // No row is longer than 180; a program that knows no end of it must not keep the test from its own.
        while (next >= 0 && found.length() < 200) {
            found.append((char) ('a' + next));
            next = letter.at(found.length());
        }
        return found.toString();
    }

    static String text(FiveInks x) {
        return row(place -> x.letter(0, place));
    }

    static String print(FiveInks x) {
        return row(place -> x.letter(1, place));
    }

    static String seen(FiveInks x, int editor) {
        return row(place -> x.seen(editor, place));
    }

    static String version(FiveInks x, int back) {
        return row(place -> x.version(back, place));
    }

    /** How the marks are, a digit each. */
    static String states(FiveInks x) {
        StringBuilder found = new StringBuilder();
        for (int i = 0; i < x.count(2); i++) {
            found.append(x.of(i, 5));
        }
        return found.toString();
    }

    /** The marks as a pad holds them, but for their letters. */
    static String gaps(FiveInks x) {
        StringBuilder found = new StringBuilder();
        for (int i = 0; i < x.count(2); i++) {
            int kind = x.of(i, 1);
            found.append(i == 0 ? "" : ",").append(x.of(i, 0)).append("-+=".charAt(kind)).append(x.of(i, 2));
            found.append(kind == 1 && x.of(i, 2) == x.of(i, 3) ? "" : ":" + x.of(i, 3));
        }
        return found.toString();
    }

    /** All that the answers of the calls ask for, in one text, to hold two states against one another. */
    static String portrait(Recipe recipe) {
        return new Portrait(recipe).ofState();
    }

    /** The same, and all that is hidden behind: the pad, the history and the slots. */
    static String wholePortrait(Recipe recipe) {
        return new Portrait(recipe).ofAll();
    }
}
