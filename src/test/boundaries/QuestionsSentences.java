/** The sentences of the promises 11 to 20: what there is, and what if. */
final class QuestionsSentences extends Sentences {
    private static final int LEAST = Integer.MIN_VALUE, MOST = Integer.MAX_VALUE;
    private static final int[] FAR = {LEAST, -7, NONE, NOT_POSSIBLE, TOO_MANY, BAD_TEXT, BAD_VALUE, 1000, MOST};

    private QuestionsSentences() {
    }

    static void all() {
        letter();
        seen();
        of();
        clash();
        editor();
        count();
        fullCounts();
        version();
        apart();
        ifAccepted();
        ifJudged();
    }

    /** One that is there, one ahead of the first and one behind the last, and some far off. */
    private static void outside(int error, int first, int last, Row question) {
        due(true, question.at(first) >= 0);
        due(true, question.at(last) >= 0);
        due(error, question.at(first - 1));
        due(error, question.at(last + 1));
        for (int far : FAR) {
            due(error, question.at(far));
        }
    }

    private static void letter() {
        section("Promise 11: letter");
        says("Returns a letter ... Returns the letter", "the first one and the last one of the text and of the print", () -> {
            FiveInks x = accepting(with("bcy", "0+0a,1+3z"), 0, 1);
            due(1, x.letter(0, 0));
            due(24, x.letter(0, 2));
            due(0, x.letter(1, 0));
            due(25, x.letter(1, 4));
        });
        says("of: 0 the text, 1 the print", "when nothing is accepted, and when all goes", () -> {
            FiveInks x = with("abc", "0-0:3");
            due(0, x.letter(1, 0));
            due(2, x.letter(1, 2));
            accepting(x, 0);
            due(2, x.letter(0, 2));
            due(NO_SUCH, x.letter(1, 0));
        });
        says("BAD_VALUE if of is neither", "-1 and 2, and far off", () -> {
            FiveInks x = with("abc");
            outside(BAD_VALUE, 0, 1, of -> x.letter(of, 0));
        });
        says("NO_SUCH if there is no such place", "of a text of 3 letters, and of its print of 5", () -> {
            FiveInks x = accepting(with("abc", "0+0xy"), 0);
            outside(NO_SUCH, 0, 2, place -> x.letter(0, place));
            outside(NO_SUCH, 0, 4, place -> x.letter(1, place));
        });
        says("NO_SUCH if there is no such place", "of 60 letters", () -> {
            FiveInks x = with(SIXTY);
            outside(NO_SUCH, 0, 59, place -> x.letter(0, place));
            outside(NO_SUCH, 0, 59, place -> x.letter(1, place));
        });
        says("NO_SUCH if there is no such place", "of none", () -> {
            due(NO_SUCH, new FiveInks().letter(0, 0));
            due(NO_SUCH, new FiveInks().letter(1, 0));
            due(NO_SUCH, new FiveInks().letter(0, -1));
        });
        says("NO_SUCH if there is no such place", "where there were letters before", () -> {
            FiveInks x = with(SIXTY);
            begin(x, "ab");
            due(NO_SUCH, x.letter(0, 2));
            due(NO_SUCH, x.letter(1, 2));
        });
    }

    private static void seen() {
        section("Promise 12: seen");
        says("Returns a letter of what an editor sees ... Returns the letter", "the editors 0 and 4, the first letter and the last one", () -> {
            FiveInks x = with("bcy", "0+0a,4+3z");
            due(0, x.seen(0, 0));
            due(24, x.seen(0, 3));
            due(1, x.seen(4, 0));
            due(25, x.seen(4, 3));
        });
        says("NO_SUCH if there is no such editor or place", "the editors -1 and 5", () -> {
            FiveInks x = with("abc");
            outside(NO_SUCH, 0, 4, editor -> x.seen(editor, 0));
        });
        says("NO_SUCH if there is no such editor or place", "the place behind the last letter, and -1", () -> {
            FiveInks x = with("abc", "0-0:1,1+1xy");
            outside(NO_SUCH, 0, 1, place -> x.seen(0, place));
            outside(NO_SUCH, 0, 4, place -> x.seen(1, place));
            outside(NO_SUCH, 0, 2, place -> x.seen(2, place));
        });
        says("NO_SUCH if there is no such editor or place", "of 180 letters, the most that can be seen", () -> {
            FiveInks x = MarksSentences.longest();
            outside(NO_SUCH, 0, 179, place -> x.seen(3, place));
        });
        says("NO_SUCH if there is no such editor or place", "where all is struck out", () -> {
            due(NO_SUCH, with(SIXTY, "2-0:60").seen(2, 0));
            due(0, with(SIXTY, "2-0:60").seen(1, 0));
            due(NO_SUCH, new FiveInks().seen(0, 0));
        });
    }

    private static void of() {
        section("Promise 13: of");
        says("Returns something about a mark", "the first of three, and the last one", () -> {
            FiveInks x = with("abcdef", "4-0:1,3+2xy,0=1:6z");
            due(4, x.of(0, 0));
            due(0, x.of(2, 0));
            outside(NO_SUCH, 0, 2, mark -> x.of(mark, 0));
        });
        says("Returns something about a mark ... Returns the number", "each of the numbers", () -> {
            FiveInks x = with("abcdef", "3-1:5,2+2xyz,4=2:6uvwxyz,3+6a");
            x.refuse(3);
            due("3 0 1 5 0 0 2 96 ", ofMark(x, 0));
            due("2 1 2 2 3 0 1 103 ", ofMark(x, 1));
            due("4 2 2 6 6 0 1 102 ", ofMark(x, 2));
            due("3 1 6 6 1 2 0 101 ", ofMark(x, 3));
        });
        says("0 its ink", "0 and 4", () -> {
            due(0, with("abc", "0-0:1").of(0, 0));
            due(4, with("abc", "4-0:1").of(0, 0));
        });
        says("1 its kind", "0, 1 and 2", () -> {
            FiveInks x = with("abc", "0-0:1,0+2x,0=2:3y");
            due("012", "" + x.of(0, 1) + x.of(1, 1) + x.of(2, 1));
        });
        says("2 its gap a", "0, 59 and 60", () -> {
            FiveInks x = with(SIXTY, "0-0:1,0-59:60,0+60x");
            due("0 59 60", x.of(0, 2) + " " + x.of(1, 2) + " " + x.of(2, 2));
        });
        says("3 its gap b", "1, 60, and the same as a", () -> {
            FiveInks x = with(SIXTY, "0-0:1,0=59:60y,0+60x,0+0z");
            due("1 60 60 0", x.of(0, 3) + " " + x.of(1, 3) + " " + x.of(2, 3) + " " + x.of(3, 3));
        });
        says("4 how many letters it puts in", "0, 1 and 6", () -> {
            FiveInks x = with("abcdef", "0-0:3,1+0a,2+0abcdef,3=0:1a,4=0:1abcdef");
            due("01616", "" + x.of(0, 4) + x.of(1, 4) + x.of(2, 4) + x.of(3, 4) + x.of(4, 4));
        });
        says("5 how it is (0 to 2)", "open, accepted, refused", () -> {
            FiveInks x = accepting(with("abc", "0-0:1,1-0:1,2-2:3"), 0);
            due("120", "" + x.of(0, 5) + x.of(1, 5) + x.of(2, 5));
        });
        says("6 with how many marks it quarrels", "0 and 19", () -> {
            due(0, withTwentyMarks().of(0, 6));
            FiveInks x = with("abcdefghijklmnopqrstu", "0+1a,0+2a,0+3a,0+4a,0+5a,0+6a,0+7a,0+8a,0+9a",
                "0+10a,0+11a,0+12a,0+13a,0+14a,0+15a,0+16a,0+17a", "0+18a,0+19a,4=0:21z");
            due(19, x.of(19, 6));
            due(1, x.of(0, 6));
            due(1, x.of(18, 6));
            x.refuse(0);
            due(18, x.of(19, 6));
            due(0, x.of(0, 6));
        });
        says("7 by how many letters the text becomes longer by it alone, and 100", "60 less, to 6 more", () -> {
            due(40, with(SIXTY, "0-0:60").of(0, 7));
            due(41, with(SIXTY, "0=0:60a").of(0, 7));
            due(46, with(SIXTY, "0=0:60abcdef").of(0, 7));
            due(99, with("abc", "0-0:1").of(0, 7));
            due(100, with("abc", "0=0:1a").of(0, 7));
            due(105, with("abc", "0=0:1abcdef").of(0, 7));
            due(101, with("abc", "0+0a").of(0, 7));
            due(106, with("abc", "0+0abcdef").of(0, 7));
        });
        says("by it alone", "others do not matter, nor how it is", () -> {
            FiveInks x = accepting(with("abc", "0+0abc,1=0:3xy,2-0:1"), 0, 1);
            due(103, x.of(0, 7));
            due(99, x.of(1, 7));
            due(99, x.of(2, 7));
        });
        says("NO_SUCH if there is no such mark", "-1, 20 of 20, 0 of none", () -> {
            FiveInks x = withTwentyMarks();
            outside(NO_SUCH, 0, 19, mark -> x.of(mark, 7));
            due(NO_SUCH, new FiveInks().of(0, 0));
        });
        says("NO_SUCH if there is no such mark", "where there was one before it was washed, or shipped", () -> {
            FiveInks x = with("abc", "0-0:1,1-1:2");
            x.wash(1);
            due(NO_SUCH, x.of(1, 0));
            due(NO_SUCH, shipped(accepting(x, 0)).of(0, 0));
        });
        says("BAD_VALUE if what is out of range", "-1 and 8", () -> {
            FiveInks x = with("abc", "0-0:1");
            outside(BAD_VALUE, 0, 7, what -> x.of(0, what));
        });
    }

    private static String ofMark(FiveInks x, int mark) {
        StringBuilder found = new StringBuilder();
        for (int what = 0; what <= 7; what++) {
            found.append(x.of(mark, what)).append(' ');
        }
        return found.toString();
    }

    private static void clash() {
        section("Promise 14: clash");
        says("Tells whether two marks clash", "the first and the last of 20", () -> {
            FiveInks x = withTwentyMarks();
            x.wash(19);
            due(1, mark(x, "1+0z"));
            due(2, x.clash(0, 19));
            due(2, x.clash(19, 0));
            due(0, x.clash(1, 19));
        });
        says("Returns 2 if they quarrel, 1 if they clash, but do not quarrel, 0 if they do not", "each of them", () -> {
            FiveInks x = with("abc", "0-0:2,1-1:3,2-2:3");
            due(2, x.clash(0, 1));
            due(0, x.clash(0, 2));
            x.refuse(0);
            due(1, x.clash(0, 1));
            due(0, x.clash(0, 2));
        });
        says("NO_SUCH if there is no such mark", "the first one: -1, as many as there are, far off", () -> {
            FiveInks x = with("abc", "0-0:1,1-1:2");
            for (int mark : new int[] {-1, 2, 19, 20, LEAST, MOST}) {
                due(NO_SUCH, x.clash(mark, 0));
                due(NO_SUCH, x.clash(mark, 1));
            }
        });
        says("NO_SUCH if there is no such mark", "the second one: -1, as many as there are, far off", () -> {
            FiveInks x = with("abc", "0-0:1,1-1:2");
            for (int mark : new int[] {-1, 2, 19, 20, LEAST, MOST}) {
                due(NO_SUCH, x.clash(0, mark));
                due(NO_SUCH, x.clash(1, mark));
            }
        });
        says("BAD_VALUE if both are the same", "the first and the last of 20", () -> {
            FiveInks x = withTwentyMarks();
            due(BAD_VALUE, x.clash(0, 0));
            due(BAD_VALUE, x.clash(19, 19));
            due(0, x.clash(0, 19));
        });
    }

    private static void editor() {
        section("Promise 15: editor");
        says("Returns something about an editor ... Returns the number", "the editors 0 and 4, of what 0 to 6", () -> {
            FiveInks x = accepting(with("abcdef", "0-0:3,4-2:4,0+5x,4+1y,0=4:5zz,0+6a"), 2);
            x.refuse(5);
            due("0421125", ofEditor(x, 0));
            due("4220026", ofEditor(x, 4));
        });
        says("0 the rank", "0 and 9", () -> {
            FiveInks x = new FiveInks();
            x.rank(2, 9);
            due(9, x.editor(2, 0));
            x.rank(2, 0);
            due(0, x.editor(2, 0));
        });
        says("1 marks, 2 open ones", "20 and none", () -> {
            FiveInks x = withTwentyMarks();
            due(20, x.editor(0, 1));
            due(20, x.editor(0, 2));
            due(0, x.editor(1, 1));
            due(0, x.editor(1, 2));
        });
        says("3 accepted ones", "20 and none", () -> {
            FiveInks x = withTwentyMarks();
            due(0, x.editor(0, 3));
            x.judge();
            due(20, x.editor(0, 3));
            due(0, x.editor(0, 2));
            due(0, x.editor(0, 4));
            due(20, x.editor(0, 1));
        });
        says("4 refused ones", "20 and none", () -> {
            FiveInks x = withTwentyMarks();
            due(0, x.editor(0, 4));
            for (int i = 0; i < 20; i++) {
                x.refuse(i);
            }
            due(20, x.editor(0, 4));
            due(0, x.editor(0, 3));
            due(0, x.editor(4, 4));
        });
        says("5 quarrels: pairs of a mark of this editor and one of another one", "none, and 64 of 20 marks", () -> {
            due(0, withTwentyMarks().editor(0, 5));
            FiveInks x = seventyQuarrels();
            due(64, x.editor(0, 5));
            due(19, x.editor(4, 5));
            due(19, x.editor(1, 5));
        });
        says("5 quarrels: pairs of a mark of this editor and one of another one", "refused ones, and own ones, do not quarrel", () -> {
            FiveInks x = with("abc", "0-0:2,1-1:3");
            x.refuse(0);
            x.strike(0, 0, 1);
            due(0, x.editor(0, 5));
            due(0, x.editor(1, 5));
        });
        says("6 the letters of what the editor sees", "0, 60 and 180", () -> {
            due(0, with(SIXTY, "0-0:60").editor(0, 6));
            due(60, with(SIXTY, "0-0:60").editor(1, 6));
            due(180, MarksSentences.longest().editor(3, 6));
            due(0, new FiveInks().editor(4, 6));
        });
        says("NO_SUCH if there is no such editor", "-1 and 5", () -> {
            for (int what = 0; what <= 6; what++) {
                int number = what;
                FiveInks x = with("abc", "0-0:1");
                outside(NO_SUCH, 0, 4, editor -> x.editor(editor, number));
            }
        });
        says("BAD_VALUE if what is out of range", "-1 and 7", () -> {
            FiveInks x = with("abc", "0-0:1");
            outside(BAD_VALUE, 0, 6, what -> x.editor(0, what));
        });
    }

    private static String ofEditor(FiveInks x, int editor) {
        StringBuilder found = new StringBuilder();
        for (int what = 0; what <= 6; what++) {
            found.append(x.editor(editor, what));
        }
        return found.toString();
    }

    /** Four inks strike or replace all, the ink 0 puts in at sixteen gaps: each of the twenty quarrels with the others. */
    private static FiveInks seventyQuarrels() {
        return with("abcdefghijklmnopqrst", "1-0:20,2=0:20a,3-0:20,4=0:20abc", "0+1a,0+2a,0+3a,0+4a,0+5a,0+6a,0+7a,0+8a,0+9a",
            "0+10a,0+11a,0+12a,0+13a,0+14a,0+15a,0+16a");
    }

    private static void count() {
        section("Promise 16: count");
        says("Returns a number ... Returns the number", "each of them, of one state", () -> {
            FiveInks x = shipped(accepting(with("abcdef", "0+5xyz,2+1y,3=0:6zz"), 0));
            due(3, mark(x, "4+8a,1+0b,3-7:9"));
            x.accept(2);
            x.put(packed("abc"));
            StringBuilder found = new StringBuilder();
            for (int what = 0; what <= 9; what++) {
                found.append(x.count(what)).append(' ');
            }
            due("9 10 4 3 1 1 1 1 3 6 ", found.toString());
        });
        says("BAD_VALUE if what is out of range", "-1 and 10", () -> outside(BAD_VALUE, 0, 9, what -> new FiveInks().count(what)));
    }

    private static void fullCounts() {
        says("0 letters of the text", "0 and 60", () -> {
            due(0, new FiveInks().count(0));
            due(60, with(SIXTY).count(0));
        });
        says("1 letters of the print", "0 and 60", () -> {
            due(0, accepting(with(SIXTY, "0-0:60"), 0).count(1));
            due(60, accepting(with(SIXTY.substring(6), "0+0abcdef"), 0).count(1));
        });
        says("2 marks, 3 open ones", "0 and 20", () -> {
            due(0, with("abc").count(2));
            due(0, with("abc").count(3));
            due(20, withTwentyMarks().count(2));
            due(20, withTwentyMarks().count(3));
        });
        says("3 open ones", "not the accepted ones, not the refused ones", () -> {
            FiveInks x = accepting(with("abc", "0-0:1,1-1:2,2-2:3"), 0);
            x.refuse(1);
            due(1, x.count(3));
        });
        says("4 accepted ones", "0 and 20", () -> {
            FiveInks x = withTwentyMarks();
            due(0, x.count(4));
            x.judge();
            due(20, x.count(4));
            due(0, x.count(3));
        });
        says("5 quarrels, as pairs of marks", "0, and 70 of 20 marks", () -> {
            due(0, withTwentyMarks().count(5));
            due(70, seventyQuarrels().count(5));
        });
        says("6 versions that were shipped so far (since the text was begun)", "0, 6, 7, and 0 again", () -> {
            FiveInks x = with("abc");
            for (int i = 0; i <= 7; i++) {
                due(i, x.count(6));
                shipped(x);
            }
            x.begin();
            due(0, x.count(6));
        });
        says("7 versions that are kept", "0, 5, 6, and 6 for 7", () -> {
            FiveInks x = with("abc");
            for (int i = 0; i <= 13; i++) {
                due(Math.min(i, 6), x.count(7));
                shipped(x);
            }
        });
        says("8 the length of the pad", "0, 1 and 60", () -> {
            FiveInks x = new FiveInks();
            due(0, x.count(8));
            x.put('a');
            due(1, x.count(8));
            pad(x, SIXTY.substring(1));
            due(60, x.count(8));
            x.put('a');
            due(60, x.count(8));
        });
        says("9 how many changes can be undone", "0, 1, 6, and 6 for 7", () -> {
            FiveInks x = new FiveInks();
            for (int i = 0; i <= 14; i++) {
                due(Math.min(i, 6), x.count(9));
                x.judge();
            }
            for (int i = 6; i > 0; i--) {
                due(i, x.count(9));
                x.undo();
            }
            due(0, x.count(9));
        });
    }

    private static void version() {
        section("Promise 17: version");
        says("Returns something about a version that is kept", "the only one of 60 letters", () -> {
            FiveInks x = shipped(with(SIXTY));
            due(60, x.version(0, NONE));
            due(SIXTY, version(x, 0));
        });
        says("back: 0 for the latest one", "the latest one and the oldest one of six", () -> {
            FiveInks x = with("abcdefghij");
            for (int i = 0; i < 9; i++) {
                x.strike(0, 0, 1);
                shipped(accepting(x, 0));
            }
            due("j", version(x, 0));
            due("efghij", version(x, 5));
        });
        says("place: a place, or NONE ... Returns its letter there", "the places 0 and last, and NONE", () -> {
            FiveInks x = shipped(with("xyz"));
            due(23, x.version(0, 0));
            due(25, x.version(0, 2));
            due(3, x.version(0, NONE));
        });
        says("how many letters it has, if place is NONE", "0, 1 and 60", () -> {
            due(0, shipped(new FiveInks()).version(0, NONE));
            due(1, shipped(with("a")).version(0, NONE));
            due(60, shipped(with(SIXTY)).version(0, NONE));
        });
        says("NO_SUCH if there is no such version or place", "the version -1, and one more than are kept", () -> {
            FiveInks x = with("abc");
            for (int kept = 0; kept <= 6; kept++) {
                due(NO_SUCH, x.version(-1, NONE));
                due(NO_SUCH, x.version(kept, NONE));
                due(NO_SUCH, x.version(kept, 0));
                due(kept > 0, x.version(kept - 1, NONE) == 3);
                shipped(x);
            }
            outside(NO_SUCH, 0, 5, back -> x.version(back, NONE));
            outside(NO_SUCH, 0, 5, back -> x.version(back, 0));
        });
        says("NO_SUCH if there is no such version or place", "the place -1, and the one behind the last letter", () -> {
            FiveInks x = shipped(with("abc"));
            for (int place : new int[] {-1, 3, -2, NOT_POSSIBLE, -7, LEAST, MOST}) {
                due(NO_SUCH, x.version(0, place));
            }
            due(2, x.version(0, 2));
        });
        says("NO_SUCH if there is no such version or place", "the place 60 of 60, and 0 of none", () -> {
            due(NO_SUCH, shipped(with(SIXTY)).version(0, 60));
            due(7, shipped(with(SIXTY)).version(0, 59));
            due(NO_SUCH, shipped(new FiveInks()).version(0, 0));
        });
        says("NO_SUCH if there is no such version or place", "a shorter version has no letters of the one in whose place it is", () -> {
            FiveInks x = with(SIXTY);
            for (int i = 0; i < 6; i++) {
                shipped(x);
            }
            x.strike(0, 1, 60);
            shipped(accepting(x, 0));
            due(1, x.version(0, NONE));
            due(NO_SUCH, x.version(0, 1));
            due(60, x.version(5, NONE));
        });
    }

    /** How far the text is from what all of the marks make of it. */
    private static int distance(String text, String marks) {
        FiveInks x = shipped(with(text));
        int made = marks.split(",").length;
        due(made, mark(x, marks));
        for (int left = made - 1; left >= 0; left--) {
            shipped(accepting(x, left));
        }
        due(x.apart(0, made), x.apart(made, 0));
        return x.apart(0, made);
    }

    private static void apart() {
        section("Promise 18: apart");
        String most = "Tells how many letters have to be put in, taken out, or exchanged, at least, to make one version of another one"
            + " ... Returns how many";
        says(most, "none", () -> {
            due(0, distance("abc", "0=0:3abc"));
            due(0, shipped(new FiveInks()).apart(0, 0));
            due(0, shipped(with(SIXTY)).apart(0, 0));
        });
        says(most, "one put in: first, midst, last, into nothing", () -> {
            due(1, distance("abc", "0+0x"));
            due(1, distance("abc", "0+2x"));
            due(1, distance("abc", "0+3x"));
            due(1, distance("", "0+0x"));
        });
        says(most, "one taken out: first, midst, last, the only one", () -> {
            due(1, distance("abc", "0-0:1"));
            due(1, distance("abc", "0-1:2"));
            due(1, distance("abc", "0-2:3"));
            due(1, distance("a", "0-0:1"));
        });
        says(most, "one exchanged: first, midst, last, the only one", () -> {
            due(1, distance("abc", "0=0:1x"));
            due(1, distance("abc", "0=1:2x"));
            due(1, distance("abc", "0=2:3x"));
            due(1, distance("a", "0=0:1x"));
        });
        says(most, "some of each", () -> {
            due(3, distance("kitten", "0=0:1s,0=4:5i,0+6g"));
            due(2, distance("abcdef", "0-0:1,0+6a"));
            due(2, distance("abc", "0=0:2ba"));
            due(3, distance("abcdef", "0=0:1x,0-2:3,0+5y"));
        });
        says(most, "60: all letters taken out, and put in", () -> due(60, distance(SIXTY, "0-0:60")));
        says(most, "60: all letters exchanged", () -> {
            FiveInks x = shipped(with("a".repeat(60)));
            for (int i = 0; i < 10; i++) {
                due(1, mark(x, "0=" + 6 * i + ":" + (6 * i + 6) + "bcdefg"));
            }
            x.judge();
            shipped(x);
            due(60, x.apart(0, 1));
            due(60, x.apart(1, 0));
        });
        says("back: 0 for the latest one - other: likewise", "the latest one and the oldest one of six", () -> {
            FiveInks x = with("abcdefghijkl");
            for (int i = 0; i < 8; i++) {
                x.strike(0, 0, 1);
                shipped(accepting(x, 0));
            }
            due(5, x.apart(0, 5));
            due(5, x.apart(5, 0));
            due(1, x.apart(4, 5));
            due(1, x.apart(1, 0));
            due(0, x.apart(5, 5));
        });
        says("NO_SUCH if there is no such version", "the first: -1, and one more than are kept", () -> {
            FiveInks x = with("abc");
            due(NO_SUCH, x.apart(0, 0));
            for (int kept = 1; kept <= 7; kept++) {
                shipped(x);
                int last = Math.min(kept, 6) - 1;
                outside(NO_SUCH, 0, last, back -> x.apart(back, 0));
            }
        });
        says("NO_SUCH if there is no such version", "the other: -1, and one more than are kept", () -> {
            FiveInks x = with("abc");
            for (int kept = 1; kept <= 7; kept++) {
                shipped(x);
                int last = Math.min(kept, 6) - 1;
                outside(NO_SUCH, 0, last, other -> x.apart(0, other));
            }
            due(NO_SUCH, x.apart(6, 6));
        });
    }

    private static void ifAccepted() {
        section("Promise 19: ifAccepted");
        says("Tells what accepting a mark would bring ... Returns the number", "the first one, and the last one of 20", () -> {
            FiveInks x = withTwentyMarks();
            outside(NO_SUCH, 0, 19, mark -> x.ifAccepted(mark, 0));
            due(21, x.ifAccepted(0, 1));
            due(21, x.ifAccepted(19, 1));
        });
        says("0 how many marks would be refused by that", "0 and 19", () -> {
            due(0, withTwentyMarks().ifAccepted(0, 0));
            FiveInks x = with("abcdefghijklmnopqrstu", "0+1a,0+2a,0+3a,0+4a,0+5a,0+6a,0+7a,0+8a,0+9a",
                "0+10a,0+11a,0+12a,0+13a,0+14a,0+15a,0+16a,0+17a", "0+18a,0+19a,4=0:21z");
            due(19, x.ifAccepted(19, 0));
            due(1, x.ifAccepted(0, 0));
        });
        says("0 how many marks would be refused by that", "not those that are refused already", () -> {
            FiveInks x = with("abc", "0-0:3,1-0:1,2-2:3");
            x.refuse(1);
            due(1, x.ifAccepted(0, 0));
        });
        says("1 the letters of the print then", "0, 60, 61 and 66", () -> {
            due(0, with(SIXTY, "0-0:60").ifAccepted(0, 1));
            due(60, with(SIXTY.substring(6), "0+0abcdef").ifAccepted(0, 1));
            due(61, with(SIXTY, "0+0a").ifAccepted(0, 1));
            due(66, with(SIXTY, "0+0abcdef").ifAccepted(0, 1));
        });
        says("1 the letters of the print then", "with what is accepted already", () -> {
            FiveInks x = accepting(with("abcdef", "0-0:2,1+3xyz,2=4:5pq"), 0, 1);
            due(8, x.ifAccepted(2, 1));
        });
        says("NO_SUCH if there is no such mark", "-1, and as many as there are", () -> {
            due(NO_SUCH, new FiveInks().ifAccepted(0, 0));
            due(NO_SUCH, with("abc", "0-0:1").ifAccepted(1, 1));
            due(NO_SUCH, with("abc", "0-0:1").ifAccepted(-1, 1));
        });
        says("BAD_VALUE if what is neither 0 nor 1", "-1 and 2", () -> {
            FiveInks x = with("abc", "0-0:1");
            outside(BAD_VALUE, 0, 1, what -> x.ifAccepted(0, what));
        });
        for (int what = 0; what <= 1; what++) {
            int number = what;
            says("NOT_POSSIBLE if it is not open", "accepted, what " + what, () ->
                due(NOT_POSSIBLE, accepting(with("abc", "0-0:1"), 0).ifAccepted(0, number)));
            says("NOT_POSSIBLE if it is not open", "refused, what " + what, () -> {
                FiveInks x = with("abc", "0-0:1");
                x.refuse(0);
                due(NOT_POSSIBLE, x.ifAccepted(0, number));
            });
            says("or an accepted one clashes with it", "by one letter, and beside, what " + what, () -> {
                FiveInks x = accepting(with("abcdef", "0-2:4"), 0);
                due(2, mark(x, "1-3:5,2-4:5"));
                due(NOT_POSSIBLE, x.ifAccepted(1, number));
                due(number == 0 ? 1 : 3, x.ifAccepted(2, number));
            });
            says("or an accepted one clashes with it", "not a refused one, what " + what, () -> {
                FiveInks x = with("abcdef", "0-2:4,1-3:5");
                x.refuse(0);
                due(number == 0 ? 0 : 4, x.ifAccepted(1, number));
            });
        }
    }

    private static void ifJudged() {
        section("Promise 20: ifJudged");
        says("Tells what judging would bring ... Returns the number", "each answer is what judge() makes of it", () -> {
            FiveInks x = with("abcdef", "0-0:2,1-1:3,4-2:4,3-3:5,2-5:6,0+0x,1-0:1,3+5z,3+2y");
            x.refuse(7);
            due("110104", "" + x.ifJudged(0) + x.ifJudged(1) + x.ifJudged(2) + x.ifJudged(3) + x.ifJudged(4) + x.ifJudged(5));
            due(5, x.judge());
            due(4, x.count(1));
        });
        says("0 to 4: how many marks of this editor would be refused by it", "none, and 19", () -> {
            FiveInks x = with("abcdefghijklmnopqrstu", "0+1a,0+2a,0+3a,0+4a,0+5a,0+6a,0+7a,0+8a,0+9a",
                "0+10a,0+11a,0+12a,0+13a,0+14a,0+15a,0+16a,0+17a", "0+18a,0+19a,4=0:21z");
            due(19, x.ifJudged(0));
            due(0, x.ifJudged(4));
            x.rank(0, 9);
            due(0, x.ifJudged(0));
            due(1, x.ifJudged(4));
        });
        says("0 to 4: how many marks of this editor would be refused by it", "those that are refused already do not count", () -> {
            FiveInks x = with("abcdef", "0-0:2,4-1:3,0-3:4");
            due(1, x.ifJudged(0));
            x.refuse(0);
            due(0, x.ifJudged(0));
        });
        says("0 to 4: how many marks of this editor would be refused by it", "those for which there is no room", () -> {
            FiveInks x = with(SIXTY.substring(1), "0+0a,4+1b,2+5cd");
            due(1, x.ifJudged(0));
            due(1, x.ifJudged(2));
            due(0, x.ifJudged(4));
        });
        says("5 the letters of the print then", "0 and 60", () -> {
            due(0, with(SIXTY, "0-0:60").ifJudged(5));
            due(60, with(SIXTY.substring(1), "0+0a,4+1b").ifJudged(5));
            due(0, new FiveInks().ifJudged(5));
        });
        says("5 the letters of the print then", "with what is accepted already", () ->
            due(5, accepting(with("abcdef", "0-0:2,1+3x"), 0).ifJudged(5)));
        says("BAD_VALUE if what is out of range", "-1 and 6", () -> {
            FiveInks x = with("abc", "0-0:1");
            outside(BAD_VALUE, 0, 5, what -> x.ifJudged(what));
            due(BAD_VALUE, x.ifJudged(6));
        });
    }
}
