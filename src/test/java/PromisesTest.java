/** One test or more for each promise of the document: ordinary inputs, the edges it names, wrong inputs. */
public final class PromisesTest {
    private static final int NO_SUCH = -1, BAD_VALUE = -2, BAD_TEXT = -3, TOO_MANY = -4, NOT_POSSIBLE = -5, NONE = -6;
    private static final String SIXTY = "abcdefghijklmnopqrstuvwxyzabcdefghijklmnopqrstuvwxyzabcdefgh";

    private static int wrong = 0;
    private static int checks = 0;

    private static void due(String what, long want, long got) {
        checks++;
        if (want != got) {
            wrong++;
            System.out.println(what + ": due is " + want + ", the answer was " + got);
        }
    }

    private static void dueText(String what, String want, String got) {
        checks++;
        if (!want.equals(got)) {
            wrong++;
            System.out.println(what + ": due is \"" + want + "\", the answer was \"" + got + "\"");
        }
    }

    // ---- help

    private static long packed(String characters) {
        long number = 0;
        for (int i = 0; i < characters.length(); i++) {
            number = (number << 8) | characters.charAt(i);
        }
        return number;
    }

    private static void write(FiveInks x, String pad) {
        for (int i = 0; i < pad.length(); i += 8) {
            String part = pad.substring(i, Math.min(i + 8, pad.length()));
            due("put " + part, i + part.length(), x.put(packed(part)));
        }
    }

    private static FiveInks withText(String text) {
        FiveInks x = new FiveInks();
        write(x, text);
        due("begin " + text, text.length(), x.begin());
        return x;
    }

    /** Puts the marks on the pad and makes them, and tells how many were made. */
    private static int marks(FiveInks x, String text) {
        write(x, text);
        return x.mark();
    }

    private static FiveInks with(String text, String marks) {
        FiveInks x = withText(text);
        due("marks " + marks, marks.split(",").length, marks(x, marks));
        return x;
    }

    private static String letters(FiveInks x, int of) {
        StringBuilder found = new StringBuilder();
        for (int i = 0; x.letter(of, i) >= 0; i++) {
            found.append((char) ('a' + x.letter(of, i)));
        }
        return found.toString();
    }

    private static String text(FiveInks x) {
        return letters(x, 0);
    }

    private static String print(FiveInks x) {
        return letters(x, 1);
    }

    private static String seen(FiveInks x, int editor) {
        StringBuilder found = new StringBuilder();
        for (int i = 0; x.seen(editor, i) >= 0; i++) {
            found.append((char) ('a' + x.seen(editor, i)));
        }
        return found.toString();
    }

    private static String states(FiveInks x) {
        StringBuilder found = new StringBuilder();
        for (int i = 0; i < x.count(2); i++) {
            found.append(x.of(i, 5));
        }
        return found.toString();
    }

    private static String version(FiveInks x, int back) {
        StringBuilder found = new StringBuilder();
        for (int i = 0; i < x.version(back, NONE); i++) {
            found.append((char) ('a' + x.version(back, i)));
        }
        return found.toString();
    }

    /** The marks as a pad could hold them, but for their letters. */
    private static String gaps(FiveInks x) {
        StringBuilder found = new StringBuilder();
        for (int i = 0; i < x.count(2); i++) {
            found.append(i == 0 ? "" : ",").append(x.of(i, 0)).append("-+=".charAt(x.of(i, 1)));
            found.append(x.of(i, 2)).append(":").append(x.of(i, 3));
        }
        return found.toString();
    }

    /** Twenty marks that do not clash: put in at the gaps 0 to 19 by the ink 0. */
    private static FiveInks withTwentyMarks() {
        FiveInks x = withText("abcdefghijklmnopqrst");
        due("10 marks", 10, marks(x, "0+0a,0+1a,0+2a,0+3a,0+4a,0+5a,0+6a,0+7a,0+8a,0+9a"));
        due("8 more", 8, marks(x, "0+10a,0+11a,0+12a,0+13a,0+14a,0+15a,0+16a,0+17a"));
        due("2 more", 2, marks(x, "0+18a,0+19a"));
        due("marks", 20, x.count(2));
        return x;
    }

    // ---- the promises

    private static void constants() {
        due("NO_SUCH", -1, FiveInks.NO_SUCH);
        due("BAD_VALUE", -2, FiveInks.BAD_VALUE);
        due("BAD_TEXT", -3, FiveInks.BAD_TEXT);
        due("TOO_MANY", -4, FiveInks.TOO_MANY);
        due("NOT_POSSIBLE", -5, FiveInks.NOT_POSSIBLE);
        due("NONE", -6, FiveInks.NONE);
        due("STRIKE", 0, FiveInks.STRIKE);
        due("PUT_IN", 1, FiveInks.PUT_IN);
        due("REPLACE", 2, FiveInks.REPLACE);
    }

    private static void promise1NewObject() {
        FiveInks x = new FiveInks();
        for (int what = 0; what <= 9; what++) {
            due("count of a new object " + what, 0, x.count(what));
        }
        for (int editor = 0; editor < 5; editor++) {
            due("rank at first", editor, x.editor(editor, 0));
        }
        due("no history", NOT_POSSIBLE, x.undo());
        due("nothing saved", NOT_POSSIBLE, x.restore(0));
        due("nothing saved", NOT_POSSIBLE, x.restore(1));
        due("two objects", 0, new FiveInks().count(0));
    }

    private static void promise2Begin() {
        FiveInks x = with("abc", "0-0:1,1+2zz");
        x.rank(2, 7);
        x.accept(0);
        due("ship", 0, x.ship());
        due("kept over", 1, x.count(2));
        write(x, SIXTY);
        due("60 letters", 60, x.begin());
        dueText("the text", SIXTY, text(x));
        due("marks go", 0, x.count(2));
        due("versions go", 0, x.count(6));
        due("versions go", 0, x.count(7));
        due("no version", NO_SUCH, x.version(0, NONE));
        due("ranks stay", 7, x.editor(2, 0));
        due("the pad is emptied", 0, x.count(8));
        due("a change", 6, x.count(9));
        due("numbers of versions begin again", 0, x.ship());
        due("an empty pad", 0, x.begin());
        due("an empty text", 0, x.count(0));
        badBegins();
    }

    private static void badBegins() {
        for (String bad : new String[] {"A", "abZ", "a1", "1", "ab,", "`", "{", "-", "0-0:1"}) {
            FiveInks x = withText("abc");
            write(x, bad);
            due("bad text " + bad, BAD_TEXT, x.begin());
            due("the pad stays", bad.length(), x.count(8));
            dueText("the text stays", "abc", text(x));
            due("no change", 1, x.count(9));
        }
    }

    private static void promise3Rank() {
        FiveInks x = new FiveInks();
        due("rank", 3, x.rank(3, 9));
        due("rank", 9, x.rank(3, 0));
        due("rank", 0, x.rank(3, 0));
        due("a change each, also if nothing is different", 3, x.count(9));
        due("the others keep theirs", 4, x.editor(4, 0));
        due("no editor", NO_SUCH, x.rank(5, 0));
        due("no editor", NO_SUCH, x.rank(-1, 0));
        due("no editor, and a bad rank", NO_SUCH, x.rank(5, 10));
        due("bad rank", BAD_VALUE, x.rank(0, 10));
        due("bad rank", BAD_VALUE, x.rank(0, -1));
        due("errors change nothing", 3, x.count(9));
        due("errors change nothing", 0, x.editor(0, 0));
    }

    private static void promise4Mark() {
        FiveInks x = withText("abcdef");
        due("three kinds", 3, marks(x, "0-1:3,4+6uvwxyz,2=0:6abcdef"));
        due("the pad is emptied", 0, x.count(8));
        due("one change", 2, x.count(9));
        dueText("gaps", "0-1:3,4+6:6,2=0:6", gaps(x));
        dueText("open at first", "000", states(x));
        dueText("6 letters at the gap n", "abcdefuvwxyz", seen(x, 4));
        due("stops at the first that cannot be made", 1, marks(x, "1-0:1,1-5:7,1-2:3"));
        due("stops", 4, x.count(2));
        due("none is made", 0, marks(x, "1+7a"));
        due("a change also if none is made", 4, x.count(9));
        due("the pad is emptied also if none is made", 0, x.count(8));
        due("b is not greater", 0, marks(x, "3-2:2"));
        due("b is not greater", 0, marks(x, "3-3:2"));
        due("b is not greater", 0, marks(x, "3=2:2a"));
        due("no gap", 0, marks(x, "3=6:7a"));
        due("no gap", 0, marks(x, "3-7:8"));
        due("no gap for a, b less", 0, marks(x, "3=7:1a"));
        marksWithAFault();
        marksInTheirOwnWay();
        twentyMarks();
    }

    private static void marksWithAFault() {
        FiveInks x = withText("abc");
        due("an empty pad", BAD_TEXT, x.mark());
        due("a fault", BAD_TEXT, marks(x, "0-0:1,"));
        due("the pad stays", 6, x.count(8));
        due("none is made", 0, x.count(2));
        due("no change", 1, x.count(9));
    }

    private static void marksInTheirOwnWay() {
        FiveInks x = withText("abcdef");
        due("own ink within the text of one call", 1, marks(x, "0-1:3,0=2:4a,0+0b"));
        due("own ink, in a strike", 0, marks(x, "0+2a"));
        due("own ink, at the edges", 2, marks(x, "0+1a,0+3b"));
        due("own ink, at one gap", 0, marks(x, "0+1c"));
        due("another ink", 3, marks(x, "1-1:3,2+2a,3+1c"));
        due("own ink, a strike around a put in", 0, marks(x, "2-0:4"));
        due("refuse", 5, x.refuse(0));
        due("own ink, but refused", 1, marks(x, "0=1:3zz"));
        due("accept", 2, x.accept(6));
        due("own ink, accepted", 0, marks(x, "0-2:3"));
        due("accepted ones of another ink do not matter", 1, marks(x, "4-2:3"));
        due("but then it cannot be accepted", NOT_POSSIBLE, x.accept(7));
    }

    private static void twentyMarks() {
        FiveInks x = withTwentyMarks();
        due("a mark too many", 0, marks(x, "0+20a"));
        due("still 20", 20, x.count(2));
        due("refused ones count, too", 19, x.refuse(5));
        due("a mark too many", 0, marks(x, "0+20a"));
        due("wash", 19, x.wash(5));
        due("one more, not two", 1, marks(x, "1+20a,1+0b"));
        due("20", 20, x.count(2));
    }

    private static void promise5Strike() {
        FiveInks x = withText("abcdef");
        due("strike", 0, x.strike(0, 0, 6));
        due("kind", FiveInks.STRIKE, x.of(0, 1));
        due("strike", 1, x.strike(1, 5, 6));
        due("own ink", NOT_POSSIBLE, x.strike(0, 5, 6));
        due("own ink, beside", 2, x.strike(1, 4, 5));
        due("a change each", 4, x.count(9));
        due("no editor", NO_SUCH, x.strike(5, 0, 1));
        due("no editor", NO_SUCH, x.strike(-1, 0, 1));
        due("no gap a", NO_SUCH, x.strike(2, -1, 1));
        due("no gap a", NO_SUCH, x.strike(2, 7, 1));
        due("no gap b", NO_SUCH, x.strike(2, 0, 7));
        due("no gap b, and not greater", NO_SUCH, x.strike(2, 0, -1));
        due("b is a", BAD_VALUE, x.strike(2, 3, 3));
        due("b is a at the last gap", BAD_VALUE, x.strike(2, 6, 6));
        due("b is less", BAD_VALUE, x.strike(2, 3, 2));
        due("bad value ahead of clashes", BAD_VALUE, x.strike(0, 3, 2));
        due("errors change nothing", 4, x.count(9));
        due("errors change nothing", 3, x.count(2));
        FiveInks full = withTwentyMarks();
        due("too many", TOO_MANY, full.strike(1, 0, 1));
        due("too many ahead of clashes", TOO_MANY, full.strike(0, 0, 2));
        due("bad value ahead of too many", BAD_VALUE, full.strike(1, 1, 1));
        due("the pad does not matter", 2, full.put(packed("zz")));
        due("wash", 19, full.wash(0));
        due("the last one", 19, full.strike(1, 0, 1));
        due("the pad stays", 2, full.count(8));
    }

    private static void promise6Accept() {
        FiveInks x = with("abcdef", "0-0:3,1-2:4,2+3x,3-4:6,2-2:3");
        due("refuses what clashes", 3, x.accept(1));
        dueText("states", "21202", states(x));
        dueText("print", "abef", print(x));
        due("a change", 3, x.count(9));
        due("accepted already", NOT_POSSIBLE, x.accept(1));
        due("refused already", NOT_POSSIBLE, x.accept(0));
        due("no mark", NO_SUCH, x.accept(5));
        due("no mark", NO_SUCH, x.accept(-1));
        due("none clashes", 0, x.accept(3));
        due("an open one that clashes with an accepted one", 5, x.strike(4, 3, 5));
        due("clashes", NOT_POSSIBLE, x.accept(5));
        dueText("it stays open", "212120", states(x));
        due("errors change nothing", 5, x.count(9));
        printOfSixty();
    }

    private static void printOfSixty() {
        FiveInks x = with(SIXTY.substring(0, 54), "0+54abcdef,1+0z,2-3:4");
        due("60 letters", 0, x.accept(0));
        due("60 letters", 60, x.count(1));
        due("61 would be too many", NOT_POSSIBLE, x.accept(1));
        due("59", 0, x.accept(2));
        due("60 again", 0, x.accept(1));
        due("60", 60, x.count(1));
        dueText("print", "zabc" + SIXTY.substring(4, 54) + "abcdef", print(x));
        due("without the strike it were 61", NOT_POSSIBLE, x.wash(2));
        due("59 without the put in", 2, x.wash(1));
        due("now the strike can go", 1, x.wash(1));
    }

    private static void promise7Refuse() {
        FiveInks x = with("abcdef", "0-0:3,1-2:4,2+3x");
        due("two are left", 2, x.refuse(1));
        dueText("nothing else happens", "020", states(x));
        due("refused already", NOT_POSSIBLE, x.refuse(1));
        due("accept", 0, x.accept(0));
        due("accepted already", NOT_POSSIBLE, x.refuse(0));
        due("none is left", 0, x.refuse(2));
        due("no mark", NO_SUCH, x.refuse(3));
        due("no mark", NO_SUCH, x.refuse(-1));
        due("changes", 5, x.count(9));
    }

    private static void promise8Wash() {
        FiveInks x = with("abcdef", "0-0:3,1=2:4pqrs,2+3x,3-4:6");
        due("accept", 2, x.accept(1));
        due("refused", 3, x.wash(0));
        dueText("those behind move up", "1=2:4,2+3:3,3-4:6", gaps(x));
        dueText("those behind move up", "120", states(x));
        dueText("with their letters", "abpqrsef", print(x));
        due("accepted", 2, x.wash(0));
        dueText("print", "abcdef", print(x));
        dueText("refused ones stay refused", "20", states(x));
        due("open", 1, x.wash(1));
        due("no mark", NO_SUCH, x.wash(1));
        due("no mark", NO_SUCH, x.wash(-1));
        due("the last one", 0, x.wash(0));
        due("no mark", NO_SUCH, x.wash(0));
        due("changes", 6, x.count(9));
        washedIsGone();
        FiveInks longer = with(SIXTY, "0-0:6,1+6a,1+7bcdef,2-8:9");
        longer.accept(0);
        longer.accept(1);
        longer.accept(2);
        due("60 letters", 60, longer.count(1));
        due("an accepted strike", NOT_POSSIBLE, longer.wash(0));
        due("an open strike", 3, longer.wash(3));
        due("changes", 6, longer.count(9));
    }

    /** Nothing answers for a mark that was the last one and is washed. */
    private static void washedIsGone() {
        FiveInks x = with("abcdef", "0-0:3,1-2:5");
        due("wash", 1, x.wash(1));
        due("quarrels", 0, x.count(5));
        due("quarrels", 0, x.of(0, 6));
        due("quarrels", 0, x.editor(0, 5));
        due("marks", 0, x.editor(1, 1));
        due("open", 0, x.editor(1, 2));
        due("open", 1, x.count(3));
        due("would be refused", 0, x.ifAccepted(0, 0));
        due("would be refused", 0, x.ifJudged(1));
        due("letters", 3, x.ifJudged(5));
        dueText("seen", "abcdef", seen(x, 1));
        due("quarrels", 0, x.editor(1, 5));
        due("none is refused", 0, x.accept(0));
        x.undo();
        due("the ink is free", 1, x.strike(1, 2, 5));
        due("accept", 1, x.accept(1));
        due("wash", 1, x.wash(1));
        due("accepted", 0, x.count(4));
        due("letters", 6, x.count(1));
        due("no accepted one clashes", 1, x.strike(0, 2, 5));
        due("no accepted one clashes", 0, x.accept(1));
        x.wash(1);
        x.ship();
        dueText("text", "abcdef", text(x));
    }

    private static void promise9Judge() {
        FiveInks x = with("abcdef", "0-0:2,1-1:3,4-2:4,3-3:5,2-5:6");
        due("by rank: 4, then 3, 2, 1 and 0", 3, x.judge());
        dueText("states", "12121", states(x));
        due("a change", 3, x.count(9));
        due("nothing is open", 0, x.judge());
        due("a change, too", 4, x.count(9));
        x = with("abcdef", "4-0:2,1-1:3,1-4:6,2-3:5");
        x.rank(1, 7);
        x.rank(2, 7);
        due("one rank: the lowest mark first", 2, x.judge());
        dueText("states", "2112", states(x));
        x = with("abcdef", "2-3:5,1-4:6,0-0:1");
        x.rank(1, 2);
        x.rank(0, 9);
        due("one rank of two editors", 2, x.judge());
        dueText("the lowest mark, not the lowest editor", "121", states(x));
        x = with(SIXTY.substring(0, 58), "0+0ab,1+1abc,2+2a,1-9:10");
        due("60 letters at most", 3, x.judge());
        dueText("what does not fit is refused", "1211", states(x));
        x = with("abcdef", "0-0:2,1-1:3");
        x.accept(0);
        x.strike(4, 0, 1);
        due("what clashes with an accepted one is refused", 0, x.judge());
        dueText("states", "122", states(x));
    }

    private static void promise10Ship() {
        FiveInks x = with("abcdef", "0=1:3xyz,1+1pq,2-3:4,3-4:6,4+4u,0-0:1");
        x.accept(0);
        x.accept(1);
        x.refuse(2);
        due("the first version", 0, x.ship());
        dueText("the print is the text", "apqxyzdef", text(x));
        dueText("marks are carried over", "3-7:9,4+7:7,0-0:1", gaps(x));
        dueText("they are open", "000", states(x));
        due("their letters", 1, x.of(1, 4));
        dueText("their letters", "apqxyzduef", seen(x, 4));
        due("the second version", 1, x.ship());
        dueText("nothing moves", "3-7:9,4+7:7,0-0:1", gaps(x));
        due("changes", 6, x.count(9));
        carriedOver();
        sixVersions();
    }

    private static void carriedOver() {
        // What is put in at the gap itself: ahead of a strike that begins there, behind one that ends there.
        FiveInks x = with("abcdef", "0+2xy,1-2:4,2-0:2,3=1:2w");
        x.accept(0);
        x.ship();
        dueText("put in at a gap of others", "1-4:6,2-0:2,3=1:2", gaps(x));
        x = with("abcdef", "0=2:4wxyz,1+2a,2+4b,3-4:5,4-1:2,1+3c,2-0:3,3+6d");
        x.accept(0);
        x.ship();
        dueText("beside a replacement; what clashes goes", "1+2:2,2+6:6,3-6:7,4-1:2,3+8:8", gaps(x));
        x = with("abcdef", "0-2:4,1+2a,1+4b,2+2c,3+4d,1-1:2,1-4:5");
        x.accept(0);
        x.ship();
        dueText("one ink at one gap: the later goes", "1+2:2,2+2:2,3+2:2,1-1:2,1-2:3", gaps(x));
        due("the earlier one's letter", 0, x.of(0, 0) == 1 ? x.seen(1, 1) : -9);
        due("put ins of several inks quarrel", 2, x.clash(0, 1));
        x = with("abcdef", "0-2:4,1+4b,1+2a");
        x.accept(0);
        x.ship();
        dueText("the later mark, not the later gap", "1+2:2", gaps(x));
        due("its letter", 1, x.seen(1, 2));
        x = with("abcdef", "0-1:2,0-2:5,1+1a,1+2b,1+5c");
        x.judge();
        x.undo();
        x.accept(0);
        x.accept(1);
        x.ship();
        dueText("three at one gap", "1+1:1", gaps(x));
        x = with("abc", "0+1xyz,1+1a,1+0b");
        x.accept(0);
        x.ship();
        dueText("a clash of put ins goes", "1+0:0", gaps(x));
        x = with("abcdef", "0-1:3,0+5xy");
        x.accept(0);
        x.accept(1);
        due("made later, so they are open", 5, marks(x, "1+2ab,1-0:2,2+5b,2=5:6c,3-2:5"));
        dueText("made later, so they are open", "1100000", states(x));
        due("ship", 0, x.ship());
        dueText("open ones that clash with an accepted one go", "2=5:6", gaps(x));
        dueText("it is open", "0", states(x));
        x = with("abcdef", "1-4:5,0-0:3");
        x.accept(1);
        x.ship();
        dueText("the first one is carried over, too", "1-1:2", gaps(x));
        x.ship();
        dueText("what went does not move it again", "1-1:2", gaps(x));
        due("what went does not clash", 0, x.accept(0));
        dueText("print", "df", print(x));
        x = with("abcdef", "1-4:5,0-0:1");
        x.accept(1);
        x.ship();
        x.ship();
        dueText("what went does not move it again", "1-3:4", gaps(x));
        x = with("abcdef", "1-4:5,0+5x,0+0y");
        x.accept(1);
        x.accept(2);
        x.ship();
        x.ship();
        dueText("what went does not move it again", "1-5:6", gaps(x));
    }

    private static void sixVersions() {
        FiveInks x = withText("abcdefgh");
        for (int i = 0; i < 8; i++) {
            x.strike(0, 0, 1);
            x.accept(0);
            due("the number of the version", i, x.ship());
            due("kept", Math.min(i + 1, 6), x.count(7));
            due("shipped", i + 1, x.count(6));
        }
        for (int back = 0; back < 6; back++) {
            dueText("version", "abcdefgh".substring(8 - back), version(x, back));
        }
        due("the seventh is gone", NO_SUCH, x.version(6, NONE));
    }

    private static void promise11Letter() {
        FiveInks x = with("abc", "0=1:2yz,1+3x");
        x.accept(0);
        dueText("text", "abc", text(x));
        dueText("print", "ayzc", print(x));
        due("past the text", NO_SUCH, x.letter(0, 3));
        due("in the print", 2, x.letter(1, 3));
        due("past the print", NO_SUCH, x.letter(1, 4));
        due("no place", NO_SUCH, x.letter(0, -1));
        due("no place", NO_SUCH, x.letter(1, -1));
        due("no place", NO_SUCH, x.letter(1, NONE));
        due("neither", BAD_VALUE, x.letter(2, 0));
        due("neither", BAD_VALUE, x.letter(-1, 0));
        due("neither, and no place", BAD_VALUE, x.letter(2, -1));
        due("far", NO_SUCH, x.letter(0, Integer.MAX_VALUE));
        due("far", NO_SUCH, x.letter(1, Integer.MIN_VALUE));
        dueText("60 letters", SIXTY, print(withText(SIXTY)));
        // At one gap: behind the replacement that ends there, ahead of the one that begins there.
        FiveInks order = with("abcd", "0=2:4mn,1+2xy,2=0:2pq,3+0s,4+4t");
        order.judge();
        dueText("order at a gap", "spqxymnt", print(order));
    }

    private static void promise12Seen() {
        FiveInks x = with("abcdef", "0-0:1,1+1x,1-3:5,2=3:4yz,2+6w,3-5:6");
        x.accept(3);
        x.accept(0);
        dueText("print", "bcyzef", print(x));
        dueText("refused ones are not seen", "xbcyzef", seen(x, 1));
        dueText("open ones of the own ink", "bcyzefw", seen(x, 2));
        dueText("open ones of the own ink", "bcyze", seen(x, 3));
        dueText("the print", "bcyzef", seen(x, 4));
        x.strike(4, 0, 4);
        dueText("accepted ones that clash give way", "ef", seen(x, 4));
        due("place", NO_SUCH, x.seen(4, 2));
        due("place", NO_SUCH, x.seen(4, -1));
        due("editor", NO_SUCH, x.seen(5, 0));
        due("editor", NO_SUCH, x.seen(-1, 0));
        FiveInks longest = withText(SIXTY);
        StringBuilder all = new StringBuilder();
        for (int i = 0; i < 20; i++) {
            due("mark", 1, marks(longest, "3+" + i + "uvwxyz"));
            all.append("uvwxyz").append(SIXTY.charAt(i));
        }
        dueText("180 letters", all.append(SIXTY.substring(20)).toString(), seen(longest, 3));
        due("180 letters", 180, longest.editor(3, 6));
    }

    private static void promise13Of() {
        FiveInks x = with("abcdef", "3-1:5,2+2xyz,4=2:6uvwxyz,3+6a");
        int[][] want = {{3, 0, 1, 5, 0, 0, 2, 96}, {2, 1, 2, 2, 3, 0, 1, 103}, {4, 2, 2, 6, 6, 0, 1, 102},
            {3, 1, 6, 6, 1, 0, 0, 101}};
        for (int mark = 0; mark < 4; mark++) {
            for (int what = 0; what < 8; what++) {
                due("of " + mark + " " + what, want[mark][what], x.of(mark, what));
            }
        }
        x.refuse(1);
        due("refused", 2, x.of(1, 5));
        due("a refused one does not quarrel", 0, x.of(1, 6));
        due("nor do others with it", 1, x.of(0, 6));
        due("longer", 103, x.of(1, 7));
        due("no mark", NO_SUCH, x.of(4, 0));
        due("no mark", NO_SUCH, x.of(-1, 0));
        due("no mark, and a bad value", NO_SUCH, x.of(4, 8));
        due("bad value", BAD_VALUE, x.of(0, 8));
        due("bad value", BAD_VALUE, x.of(0, -1));
        FiveInks whole = withText(SIXTY);
        whole.strike(0, 0, 60);
        due("60 letters shorter", 40, whole.of(0, 7));
    }

    private static void promise14Clash() {
        FiveInks x = with("abcdef", "0-1:3,1-3:5,2-2:4,3+1x,4+2y,2+5z,3+3p,4+3q,0=3:5u");
        int[][] clashing = {{0, 2}, {0, 4}, {1, 2}, {1, 8}, {2, 6}, {2, 7}, {2, 8}, {6, 7}};
        for (int i = 0; i < 9; i++) {
            for (int j = 0; j < 9; j++) {
                int want = i == j ? BAD_VALUE : 0;
                for (int[] pair : clashing) {
                    if (pair[0] == Math.min(i, j) && pair[1] == Math.max(i, j)) {
                        want = 2;
                    }
                }
                due("clash " + i + " " + j, want, x.clash(i, j));
            }
        }
        x.refuse(0);
        due("a clash, but no quarrel", 1, x.clash(0, 2));
        due("a clash, but no quarrel", 1, x.clash(4, 0));
        due("own ink, refused", 9, x.strike(0, 1, 2));
        due("own ink", 1, x.clash(0, 9));
        due("no mark", NO_SUCH, x.clash(10, 0));
        due("no mark", NO_SUCH, x.clash(0, 10));
        due("no mark", NO_SUCH, x.clash(-1, 0));
        due("no mark", NO_SUCH, x.clash(0, -1));
        due("no mark, and the same", NO_SUCH, x.clash(10, 10));
        x = withText("abc");
        x.strike(0, 0, 1);
        x.accept(0);
        x.strike(1, 0, 2);
        due("accepted ones quarrel", 2, x.clash(0, 1));
    }

    private static void promise15Editor() {
        FiveInks x = with("abcdef", "0-0:3,1-2:4,0+5x,2+1y,0=4:5zz,0+6a");
        x.accept(2);
        x.refuse(5);
        due("rank", 0, x.editor(0, 0));
        due("marks", 4, x.editor(0, 1));
        due("open", 2, x.editor(0, 2));
        due("accepted", 1, x.editor(0, 3));
        due("refused", 1, x.editor(0, 4));
        due("quarrels", 2, x.editor(0, 5));
        due("quarrels", 1, x.editor(1, 5));
        due("quarrels", 1, x.editor(2, 5));
        due("none", 0, x.editor(3, 5));
        due("letters", 5, x.editor(0, 6));
        dueText("letters", "dzzxf", seen(x, 0));
        due("letters of the print", 7, x.editor(4, 6));
        x.wash(5);
        due("accepted", 1, x.editor(0, 3));
        due("none is refused", 0, x.editor(0, 4));
        due("one is accepted", 1, x.count(4));
        due("no editor", NO_SUCH, x.editor(5, 0));
        due("no editor", NO_SUCH, x.editor(-1, 0));
        due("no editor, and a bad value", NO_SUCH, x.editor(5, 7));
        due("bad value", BAD_VALUE, x.editor(0, 7));
        due("bad value", BAD_VALUE, x.editor(0, -1));
    }

    private static void promise16Count() {
        FiveInks x = with("abcdef", "0-0:3,1-2:4,0+5xyz,2+1y,3=0:6zz");
        x.accept(2);
        x.ship();
        due("marks", 3, marks(x, "4+8a,1+0b,0+0c"));
        x.accept(4);
        x.put(packed("abc"));
        int[] want = {9, 10, 6, 4, 1, 2, 1, 1, 3, 6};
        for (int what = 0; what < want.length; what++) {
            due("count " + what, want[what], x.count(what));
        }
        due("bad value", BAD_VALUE, x.count(10));
        due("bad value", BAD_VALUE, x.count(-1));
    }

    private static void promise17Version() {
        FiveInks x = with("abc", "0+3de");
        x.ship();
        x.accept(0);
        x.ship();
        dueText("the latest", "abcde", version(x, 0));
        dueText("the one before", "abc", version(x, 1));
        due("length", 5, x.version(0, NONE));
        due("no place", NO_SUCH, x.version(0, 5));
        due("no place", NO_SUCH, x.version(1, 3));
        due("no place", NO_SUCH, x.version(0, -1));
        due("no place", NO_SUCH, x.version(0, -7));
        due("no version", NO_SUCH, x.version(2, 0));
        due("no version", NO_SUCH, x.version(2, NONE));
        due("no version", NO_SUCH, x.version(-1, NONE));
        due("no version", NO_SUCH, x.version(Integer.MIN_VALUE, 0));
        due("an empty version", 0, shippedEmpty().version(0, NONE));
        due("an empty version", NO_SUCH, shippedEmpty().version(0, 0));
    }

    private static FiveInks shippedEmpty() {
        FiveInks x = new FiveInks();
        x.ship();
        return x;
    }

    /** The distance of the text to what the marks make of it. */
    private static void apartAfter(int want, String text, String marks) {
        FiveInks x = with(text, marks);
        x.ship();
        for (int i = 0; i < x.count(2); i++) {
            due("accept", 0, x.accept(i));
        }
        x.ship();
        due("apart " + text + " " + marks, want, x.apart(0, 1));
        due("apart, the other way " + text + " " + marks, want, x.apart(1, 0));
        due("the same", 0, x.apart(0, 0));
        due("the same", 0, x.apart(1, 1));
    }

    private static void promise18Apart() {
        apartAfter(3, "kitten", "0=0:1s,0=4:5i,0+6g");
        apartAfter(2, "abcdef", "0-0:1,0+6a");
        apartAfter(2, "abc", "0=0:2ba");
        apartAfter(1, "abc", "0=0:3abcd");
        apartAfter(6, "abcdef", "0-0:6");
        apartAfter(60, SIXTY, "0-0:60");
        apartAfter(6, "x", "0=0:1abcdef");
        apartAfter(0, "abc", "0=0:3abc");
        FiveInks x = shippedEmpty();
        due("empty", 0, x.apart(0, 0));
        due("no version", NO_SUCH, x.apart(0, 1));
        due("no version", NO_SUCH, x.apart(1, 0));
        due("no version", NO_SUCH, x.apart(-1, 0));
        due("no version", NO_SUCH, x.apart(0, -1));
        due("no version, the same", NO_SUCH, x.apart(1, 1));
    }

    private static void promise19IfAccepted() {
        FiveInks x = with("abcdef", "0-0:3,1-2:4,2+3x,3=4:6uvwxyz");
        due("refused", 2, x.ifAccepted(1, 0));
        due("letters", 4, x.ifAccepted(1, 1));
        due("refused", 0, x.ifAccepted(3, 0));
        due("letters", 10, x.ifAccepted(3, 1));
        dueText("nothing changes", "0000", states(x));
        due("nothing changes", 2, x.count(9));
        x.accept(1);
        due("letters, with accepted ones", 8, x.ifAccepted(3, 1));
        due("no mark", NO_SUCH, x.ifAccepted(4, 0));
        due("no mark", NO_SUCH, x.ifAccepted(-1, 0));
        due("no mark, and a bad value", NO_SUCH, x.ifAccepted(4, 2));
        due("bad value", BAD_VALUE, x.ifAccepted(3, 2));
        due("bad value", BAD_VALUE, x.ifAccepted(3, -1));
        due("bad value ahead of not possible", BAD_VALUE, x.ifAccepted(1, 2));
        due("accepted", NOT_POSSIBLE, x.ifAccepted(1, 0));
        due("refused", NOT_POSSIBLE, x.ifAccepted(0, 1));
        x.wash(2);
        x.wash(0);
        x.strike(4, 2, 3);
        due("clashes", NOT_POSSIBLE, x.ifAccepted(2, 0));
        due("clashes", NOT_POSSIBLE, x.ifAccepted(2, 1));
        FiveInks longer = with(SIXTY, "0+0abcdef");
        due("more than 60 letters", 66, longer.ifAccepted(0, 1));
        due("more than 60 letters", 0, longer.ifAccepted(0, 0));
        due("though it cannot be accepted", NOT_POSSIBLE, longer.accept(0));
    }

    private static void promise20IfJudged() {
        FiveInks x = with("abcdef", "0-0:2,1-1:3,4-2:4,3-3:5,2-5:6,0+0x,1-0:1,3+5z,3+2y");
        x.refuse(7);
        int[] want = {1, 1, 0, 1, 0, 4};
        for (int what = 0; what < want.length; what++) {
            due("ifJudged " + what, want[what], x.ifJudged(what));
        }
        dueText("nothing changes", "000000020", states(x));
        due("nothing changes", 3, x.count(9));
        due("bad value", BAD_VALUE, x.ifJudged(6));
        due("bad value", BAD_VALUE, x.ifJudged(-1));
        due("judge", 5, x.judge());
        dueText("as was told", "221211121", states(x));
        due("letters", 4, x.count(1));
        for (int what = 0; what < 5; what++) {
            due("refused before are not counted", 0, x.ifJudged(what));
        }
    }

    private static void promise21Put() {
        FiveInks x = new FiveInks();
        due("one", 1, x.put('a'));
        due("codes", 3, x.put(packed("!~")));
        due("eight", 11, x.put(packed("abcdefgh")));
        due("none", BAD_VALUE, x.put(0));
        due("code 32", BAD_VALUE, x.put(32));
        due("code 127", BAD_VALUE, x.put(127));
        due("code 128", BAD_VALUE, x.put(128));
        due("code 32 in the midst", BAD_VALUE, x.put(packed("a b")));
        due("a bit above a 0", BAD_VALUE, x.put(0x610061L));
        due("a low 0", BAD_VALUE, x.put(0x6100L));
        due("a bit above eight 0s", BAD_VALUE, x.put(1L << 63 | 'a'));
        due("a negative number", BAD_VALUE, x.put(-1));
        due("the least number", BAD_VALUE, x.put(Long.MIN_VALUE));
        due("the highest code is bad", BAD_VALUE, x.put(0x8061616161616161L));
        due("nothing was put", 11, x.count(8));
        due("put is no change", 0, x.count(9));
        for (int length = 19; length <= 59; length += 8) {
            due("put", length, x.put(packed("abcdefgh")));
        }
        due("too many", TOO_MANY, x.put(packed("ab")));
        due("bad value ahead of too many", BAD_VALUE, x.put(packed("a b")));
        due("60", 60, x.put('z'));
        due("too many", TOO_MANY, x.put('z'));
        due("bad value ahead of too many", BAD_VALUE, x.put(0));
        due("60", 60, x.count(8));
        FiveInks order = new FiveInks();
        order.put(packed("ab"));
        order.put(packed("cde"));
        order.begin();
        dueText("the lowest 8 bits are the last character", "abcde", text(order));
    }

    private static void promise22Wipe() {
        FiveInks x = withText("abc");
        due("empty", 0, x.wipe());
        write(x, "some-thing");
        due("wipe", 10, x.wipe());
        due("wiped", 0, x.count(8));
        due("wiped", 0, x.wipe());
        due("no change", 1, x.count(9));
        dueText("the text stays", "abc", text(x));
    }

    private static void promise23Fault() {
        String[] good = {"0-0:1", "4-60:0", "0+0a", "3+60abcdef", "2=59:60z", "1=10:9abcdef", "0-0:0,1+1b,2=2:2c,3-3:3",
            "0-0:1,0-0:1,0-0:1,0-0:1,0-0:1,0-0:1,0-0:1,0-0:1,0-0:1,0-0:10"};
        for (String text : good) {
            fault(NONE, text);
        }
        String[] bad = {"5-0:1", "a", "-", ",", "0,", "0a", "00", "0*", "0-a", "0-:", "0-,", "0+a", "0+,", "0=a", "0-01:2",
            "0-00:2", "0-61:62", "0-70:71", "0-600:1", "0-0:61", "0-0:00", "0-0:601", "0-0:99", "0-0,", "0-0a", "0-0-",
            "0-0:a", "0-0:1a", "0-0:1:", "0+0,", "0+0:1", "0+0A", "0+00a", "0+0abcdefg", "0+0a1", "0+0a:", "0+1-",
            "0=0a", "0=0:,", "0=0:1,", "0=0:1:", "0=0:1abcdefg", "0=0:61a", "0=0:1a-", "0-0:1,,", "0-0:1,a", "0-0:1,5"};
        int[] at = {0, 0, 0, 0, 1, 1, 1, 1, 2, 2, 2, 2, 2, 2, 3,
            3, 3, 3, 4, 5, 5, 6, 5, 3, 3, 3,
            4, 5, 5, 3, 3, 3, 3, 9, 4, 4, 3,
            3, 4, 5, 5, 11, 5, 6, 6, 6, 6};
        for (int i = 0; i < bad.length; i++) {
            fault(at[i], bad[i]);
        }
        String[] early = {"", "0", "0-", "0-1", "0-10", "0-1:", "0+", "0+5", "0=", "0=5", "0=5:", "0=5:6", "0=5:60",
            "0-0:1,", "0+0abcdef,", "0-0:1,3", "0-0:1,3+0"};
        for (String text : early) {
            fault(text.length(), text);
        }
    }

    private static void fault(int want, String text) {
        FiveInks x = new FiveInks();
        write(x, text);
        due("fault of " + text, want, x.fault());
        due("the pad stays", text.length(), x.count(8));
        due("no change", 0, x.count(9));
        if (want != NONE) {
            due("mark with a fault " + text, BAD_TEXT, x.mark());
        }
    }

    private static void promise24Undo() {
        FiveInks x = withText("abc");
        due("nothing ahead of begin", 0, x.undo());
        due("none", NOT_POSSIBLE, x.undo());
        due("the text", 0, x.count(0));
        x = with("abcdef", "0-0:3,1-2:4,2+3x");
        x.rank(0, 5);
        x.accept(0);
        x.put(packed("pad"));
        x.ship();
        x.save(0);
        due("begin", BAD_TEXT, marks(x, ""));
        due("begin", 3, x.begin());
        due("six", 6, x.count(9));
        due("begin is undone", 5, x.undo());
        dueText("text", "def", text(x));
        due("the pad is not brought back", 0, x.count(8));
        due("versions are", 1, x.count(6));
        dueText("versions are", "def", version(x, 0));
        due("ship is undone", 4, x.undo());
        dueText("text", "abcdef", text(x));
        dueText("states", "120", states(x));
        due("no version", 0, x.count(6));
        due("accept is undone", 3, x.undo());
        dueText("states", "000", states(x));
        due("rank is undone", 2, x.undo());
        due("rank", 0, x.editor(0, 0));
        due("mark is undone, with all of them", 1, x.undo());
        due("marks", 0, x.count(2));
        due("slots are not undone", 1, x.restore(0));
        dueText("slots are not undone", "def", text(x));
        historyOfSix();
        eachChangeIsOne();
    }

    private static void historyOfSix() {
        FiveInks x = new FiveInks();
        for (int i = 1; i <= 9; i++) {
            x.rank(0, i);
            due("at most six", Math.min(i, 6), x.count(9));
        }
        for (int i = 5; i >= 0; i--) {
            due("undo", i, x.undo());
            due("rank", 3 + i, x.editor(0, 0));
        }
        due("the oldest ones are dropped", NOT_POSSIBLE, x.undo());
        x.rank(0, 7);
        x.rank(0, 8);
        due("again", 1, x.undo());
        due("rank", 7, x.editor(0, 0));
    }

    private static void eachChangeIsOne() {
        FiveInks x = withText("abcdef");
        x.strike(0, 0, 1);
        x.strike(1, 0, 2);
        x.refuse(0);
        x.wash(0);
        due("five", 5, x.count(9));
        due("judge", 1, x.judge());
        due("judge is undone", 5, x.undo());
        dueText("states", "0", states(x));
        due("wash is undone", 4, x.undo());
        dueText("states", "20", states(x));
        due("refuse is undone", 3, x.undo());
        dueText("states", "00", states(x));
        due("strike is undone", 2, x.undo());
        due("marks", 1, x.count(2));
        due("save", 1, x.save(1));
        due("save is no change", 2, x.count(9));
        due("restore", 1, x.restore(1));
        due("restore is one", 3, x.count(9));
        due("undo is none", 2, x.undo());
    }

    private static void promise25Save() {
        FiveInks x = with("abc", "0-0:1,1+1xy");
        due("save", 2, x.save(0));
        x.accept(0);
        x.rank(4, 9);
        x.ship();
        due("save", 1, x.save(1));
        due("slots are two", 2, x.restore(0));
        dueText("text", "abc", text(x));
        dueText("states", "00", states(x));
        due("rank", 4, x.editor(4, 0));
        due("versions", 0, x.count(6));
        due("the other slot", 1, x.restore(1));
        dueText("text", "bc", text(x));
        due("rank", 9, x.editor(4, 0));
        due("versions", 1, x.count(6));
        dueText("gaps", "1+0:0", gaps(x));
        dueText("letters", "xybc", seen(x, 1));
        due("overwrite", 1, x.save(0));
        x.begin();
        due("overwritten", 1, x.restore(0));
        dueText("overwritten", "bc", text(x));
        due("no slot", BAD_VALUE, x.save(2));
        due("no slot", BAD_VALUE, x.save(-1));
    }

    private static void promise26Restore() {
        FiveInks x = with("abc", "0-0:1");
        due("nothing saved", NOT_POSSIBLE, x.restore(0));
        due("save", 1, x.save(0));
        due("nothing saved in the other one", NOT_POSSIBLE, x.restore(1));
        due("no slot", BAD_VALUE, x.restore(2));
        due("no slot", BAD_VALUE, x.restore(-1));
        due("errors change nothing", 2, x.count(9));
        x.put(packed("xyz"));
        x.wash(0);
        due("restore", 1, x.restore(0));
        due("the pad stays", 3, x.count(8));
        due("a change", 4, x.count(9));
        x.accept(0);
        due("the slot keeps it", 1, x.restore(0));
        dueText("the slot keeps it", "0", states(x));
        due("undone", 5, x.undo());
        dueText("undone", "1", states(x));
        due("the slot stays through begin", 3, x.begin());
        due("the slot stays through begin", 1, x.restore(0));
        dueText("text", "abc", text(x));
        wholeStatesComeBack();
    }

    /** Two states that are unlike in everything, brought back in turn. */
    private static void wholeStatesComeBack() {
        FiveInks x = with("abcdef", "0+1pqr,1=2:4s");
        x.accept(0);
        x.ship();
        x.accept(0);
        x.rank(0, 6);
        x.save(0);
        checkFirstState(x);
        write(x, "uvw");
        x.begin();
        due("marks", 2, marks(x, "4-1:2,3+3mn"));
        x.ship();
        x.strike(2, 0, 1);
        x.rank(0, 3);
        x.ship();
        x.save(1);
        checkSecondState(x);
        due("first", 1, x.restore(0));
        checkFirstState(x);
        due("second", 3, x.restore(1));
        checkSecondState(x);
        x.undo();
        checkFirstState(x);
        x.undo();
        checkSecondState(x);
    }

    private static void checkFirstState(FiveInks x) {
        dueText("text", "apqrbcdef", text(x));
        dueText("gaps", "1=5:7", gaps(x));
        dueText("states", "1", states(x));
        dueText("print", "apqrbsef", print(x));
        dueText("version", "apqrbcdef", version(x, 0));
        due("shipped", 1, x.count(6));
        due("rank", 6, x.editor(0, 0));
    }

    private static void checkSecondState(FiveInks x) {
        dueText("text", "uvw", text(x));
        dueText("gaps", "4-1:2,3+3:3,2-0:1", gaps(x));
        dueText("states", "000", states(x));
        dueText("seen", "uvwmn", seen(x, 3));
        dueText("seen", "vw", seen(x, 2));
        dueText("version", "uvw", version(x, 0));
        dueText("version", "uvw", version(x, 1));
        due("shipped", 2, x.count(6));
        due("rank", 3, x.editor(0, 0));
    }

    public static void main(String[] args) {
        constants();
        promise1NewObject();
        promise2Begin();
        promise3Rank();
        promise4Mark();
        promise5Strike();
        promise6Accept();
        promise7Refuse();
        promise8Wash();
        promise9Judge();
        promise10Ship();
        promise11Letter();
        promise12Seen();
        promise13Of();
        promise14Clash();
        promise15Editor();
        promise16Count();
        promise17Version();
        promise18Apart();
        promise19IfAccepted();
        promise20IfJudged();
        promise21Put();
        promise22Wipe();
        promise23Fault();
        promise24Undo();
        promise25Save();
        promise26Restore();
        System.out.println("promises: " + checks + " checks, " + wrong + " wrong");
        if (wrong != 0) {
            System.exit(1);
        }
    }
}
