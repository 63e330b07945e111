/** The sentences of the promises 1 to 10: a new object, and the calls that change text, ranks and marks. */
final class ChangesSentences extends Sentences {
    private ChangesSentences() {
    }

    static void all() {
        newObject();
        begin();
        rank();
        mark();
        marksThatCannotBeMade();
        strike();
        accept();
        refuse();
        wash();
        judge();
        orderOfJudging();
        ship();
    }

    // ---- help

    /** A call that is a change is one in the history, with or without room there, and undo brings back all. */
    static void aChange(String words, String boundary, Recipe before, Call call) {
        says(words, boundary, () -> {
            FiveInks x = before.make();
            int undone = x.count(9);
            due(true, call.on(x) >= 0);
            due(Math.min(6, undone + 1), x.count(9));
            due(Math.min(5, undone), x.undo());
            due(portrait(before), portrait(() -> {
                FiveInks again = before.make();
                call.on(again);
                again.undo();
                return again;
            }));
        });
        says(words, boundary + ", the history is full", () -> {
            FiveInks x = fillHistory(before.make());
            due(6, x.count(9));
            due(true, call.on(x) >= 0);
            due(6, x.count(9));
            due(5, x.undo());
            due(5, x.count(9));
        });
    }

    /** Six changes that leave all as it is but the history. */
    private static FiveInks fillHistory(FiveInks x) {
        for (int i = 0; i < 6; i++) {
            x.rank(0, x.editor(0, 0));
        }
        return x;
    }

    /** Sixty letters of the print, by a put in that is accepted; an open put in, a strike and a refused mark. */
    static FiveInks printOfSixty() {
        FiveInks x = with(SIXTY.substring(6), "0+0abcdef,1+20y,2-30:31,3-40:41");
        x.refuse(3);
        return accepting(x, 0);
    }

    // ---- the promises

    private static void newObject() {
        section("Promise 1: A new object");
        says("Creates an empty text without marks", "each count is 0", () -> {
            for (int what = 0; what <= 9; what++) {
                due(0, new FiveInks().count(what));
            }
        });
        says("Creates an empty text without marks", "no letter, no mark, no version, nothing on the pad, saved or to undo", () -> {
            FiveInks x = new FiveInks();
            due(NO_SUCH, x.letter(0, 0));
            due(NO_SUCH, x.letter(1, 0));
            due(NO_SUCH, x.of(0, 0));
            due(NO_SUCH, x.version(0, NONE));
            due(0, x.wipe());
            due(NOT_POSSIBLE, x.undo());
            due(NOT_POSSIBLE, x.restore(0));
            due(NOT_POSSIBLE, x.restore(1));
        });
        says("Creates an empty text without marks", "one object does not touch another one", () -> {
            FiveInks first = with("abc", "0-0:1");
            first.save(0);
            FiveInks second = new FiveInks();
            due(wholePortrait(FiveInks::new), wholePortrait(() -> second));
            second.rank(0, 9);
            due(0, first.editor(0, 0));
        });
    }

    private static void begin() {
        section("Promise 2: begin");
        String letters = "Begins another text: the letters of the pad, or none, if it is empty";
        says(letters, "an empty pad", () -> {
            FiveInks x = with("abc");
            due(0, x.begin());
            due("", text(x));
        });
        says(letters, "one letter, 59 and 60", () -> {
            FiveInks x = new FiveInks();
            for (String text : new String[] {"a", "z", SIXTY.substring(1), SIXTY, "q"}) {
                due(text.length(), begin(x, text));
                due(text, text(x));
            }
        });
        says("all marks and versions go", "twenty marks, six versions", () -> {
            FiveInks x = withTwentyMarks();
            for (int i = 0; i < 7; i++) {
                shipped(x);
            }
            due(20, x.count(2));
            due(6, x.count(7));
            due(3, begin(x, "abc"));
            due(0, x.count(2));
            due(0, x.count(6));
            due(0, x.count(7));
            due(NO_SUCH, x.version(0, NONE));
            due(NO_SUCH, x.of(0, 0));
            due(0, x.ship());
            due("abc", version(x, 0));
            due(NO_SUCH, x.version(1, NONE));
        });
        says("ranks stay", "0 and 9", () -> {
            FiveInks x = with("abc");
            x.rank(4, 0);
            x.rank(0, 9);
            due(1, begin(x, "a"));
            due(0, x.editor(4, 0));
            due(9, x.editor(0, 0));
            due(2, x.editor(2, 0));
        });
        says("and the pad is emptied", "of 60 letters, and of none", () -> {
            FiveInks x = with(SIXTY);
            due(0, x.count(8));
            due(0, x.begin());
            due(0, x.count(8));
        });
        aChange("This is a change.", "with letters", () -> {
            FiveInks x = shipped(accepting(with("abc", "0-0:1,1+3x"), 0));
            pad(x, "xyz");
            return x;
        }, FiveInks::begin);
        aChange("This is a change.", "nothing is different", FiveInks::new, FiveInks::begin);
        says("Returns how many letters the text has", "0 and 60", () -> {
            due(0, new FiveInks().begin());
            due(60, begin(new FiveInks(), SIXTY));
        });
        for (int at : new int[] {0, 30, 59}) {
            says("BAD_TEXT if the pad has anything but letters", "one sign at " + at + " of 60", () -> {
                for (char sign : new char[] {'`', '{', 'A', 'Z', '0', ',', '!', '~'}) {
                    FiveInks x = new FiveInks();
                    pad(x, SIXTY.substring(0, at) + sign + SIXTY.substring(at + 1));
                    due(BAD_TEXT, x.begin());
                    due(60, x.count(8));
                }
            });
        }
    }

    private static void rank() {
        section("Promise 3: rank");
        says("Changes the rank of an editor", "the first one and the last one, and no other one", () -> {
            FiveInks x = new FiveInks();
            due(0, x.rank(0, 7));
            due(4, x.rank(4, 8));
            due("71238", "" + x.editor(0, 0) + x.editor(1, 0) + x.editor(2, 0) + x.editor(3, 0) + x.editor(4, 0));
        });
        aChange("This is a change.", "another rank", () -> with("abc"), x -> x.rank(2, 9));
        aChange("This is a change.", "the same rank", () -> with("abc"), x -> x.rank(2, 2));
        says("0 to 9", "0 and 9", () -> {
            FiveInks x = new FiveInks();
            due(1, x.rank(1, 0));
            due(0, x.rank(1, 9));
            due(9, x.rank(1, 1));
        });
        says("Returns the previous one", "the first one, 0, 9, and the same again", () -> {
            FiveInks x = new FiveInks();
            due(3, x.rank(3, 9));
            due(9, x.rank(3, 0));
            due(0, x.rank(3, 0));
            due(0, x.rank(3, 5));
        });
        says("NO_SUCH if there is no such editor", "-1 and 5, and far off", () -> {
            FiveInks x = new FiveInks();
            for (int editor : new int[] {-1, 5, Integer.MIN_VALUE, Integer.MAX_VALUE}) {
                due(NO_SUCH, x.rank(editor, 0));
            }
            due(4, x.rank(4, 4));
        });
        says("BAD_VALUE if rank is out of range", "-1 and 10, and far off", () -> {
            FiveInks x = new FiveInks();
            for (int rank : new int[] {-1, 10, Integer.MIN_VALUE, Integer.MAX_VALUE}) {
                due(BAD_VALUE, x.rank(0, rank));
            }
            due(0, x.rank(0, 0));
        });
    }

    private static void mark() {
        section("Promise 4: mark");
        String upTo = "Makes the marks of the pad, one after the other, up to the first one that cannot be made";
        says(upTo, "all can", () -> {
            FiveInks x = with("abcdef");
            due(3, mark(x, "0-0:1,1+6x,2=1:6y"));
            due("0-0:1,1+6,2=1:6", gaps(x));
        });
        says(upTo, "the first one cannot", () -> {
            FiveInks x = with("abcdef");
            due(0, mark(x, "0-0:7,1+6x,2=1:6y"));
            due("", gaps(x));
        });
        says(upTo, "one in the midst cannot: those behind it are not made", () -> {
            FiveInks x = with("abcdef");
            due(1, mark(x, "0-0:1,1+7x,2=1:6y"));
            due("0-0:1", gaps(x));
        });
        says(upTo, "the last one cannot", () -> {
            FiveInks x = with("abcdef");
            due(2, mark(x, "0-0:1,1+6x,2=6:1y"));
            due("0-0:1,1+6", gaps(x));
        });
        says("and empties the pad", "all were made, none was, the pad was full", () -> {
            FiveInks x = with("abcdefghij");
            due(1, mark(x, "0-0:1"));
            due(0, x.count(8));
            due(0, mark(x, "0-0:1"));
            due(0, x.count(8));
            due(12, mark(x, "1+0a,1+1a,1+2a,1+3a,1+4a,1+5a,1+6a,1+7a,1+8a,1+9a,2+0a,2+1ab"));
            due(0, x.count(8));
        });
        aChange("This is a change (one, with all of them; also if none is made)", "twelve are made",
            () -> withPad("abcdefghij", "1+0a,1+1a,1+2a,1+3a,1+4a,1+5a,1+6a,1+7a,1+8a,1+9a,2+0a,2+1ab"), FiveInks::mark);
        aChange("This is a change (one, with all of them; also if none is made)", "one is made",
            () -> withPad("abc", "1+0a"), FiveInks::mark);
        aChange("also if none is made", "none is made", () -> withPad("abc", "1+4a"), FiveInks::mark);
        says("Returns how many were made", "0, 1 and 12", () -> {
            due(0, withPad("abc", "1+4a,0+0a").mark());
            due(1, withPad("abc", "1+3a,0+4a").mark());
            due(12, withPad("abcdefghij", "1+0a,1+1a,1+2a,1+3a,1+4a,1+5a,1+6a,1+7a,1+8a,1+9a,2+0a,2+1a").mark());
        });
        says("BAD_TEXT if the pad has a fault (then it stays)", "the pad is empty", () -> {
            FiveInks x = with("abc");
            due(BAD_TEXT, x.mark());
            due(0, x.count(8));
            due(1, x.count(9));
        });
        says("BAD_TEXT if the pad has a fault (then it stays)", "at its first character, behind its last one, behind a mark", () -> {
            for (String bad : new String[] {"abc", "0-0:1,", "0-0:1,1+0"}) {
                FiveInks x = withPad("abc", bad);
                due(BAD_TEXT, x.mark());
                due(bad.length(), x.count(8));
                due(0, x.count(2));
                due(1, x.count(9));
            }
        });
        says("BAD_TEXT if the pad has a fault (then it stays)", "the pad can still be mended, or begun", () -> {
            FiveInks x = withPad("abc", "0-0:1,1+0");
            due(BAD_TEXT, x.mark());
            due(10, x.put('x'));
            due(2, x.mark());
            pad(x, "xyz");
            due(BAD_TEXT, x.mark());
            due(3, x.begin());
            due("xyz", text(x));
        });
    }

    private static FiveInks withPad(String text, String characters) {
        FiveInks x = with(text);
        pad(x, characters);
        return x;
    }

    private static void cannot(String boundary, String text, String mark) {
        says("A mark cannot be made if its gaps are not there, or do not suit its kind", boundary,
            () -> due(0, mark(with(text), mark)));
    }

    private static void can(String boundary, String text, String mark) {
        says("A mark cannot be made if its gaps are not there, or do not suit its kind", boundary,
            () -> due(1, mark(with(text), mark)));
    }

    private static void marksThatCannotBeMade() {
        can("a put in at the last gap", "abc", "0+3x");
        cannot("a put in one behind", "abc", "0+4x");
        can("a put in in an empty text", "", "0+0x");
        cannot("a put in in an empty text at 1", "", "0+1x");
        can("a put in at the gap 60", SIXTY, "0+60x");
        cannot("a put in at the gap 60 of 59 letters", SIXTY.substring(1), "0+60x");
        for (String kind : new String[] {"-", "="}) {
            String letter = kind.equals("=") ? "x" : "";
            can(kind + " up to the last gap", "abc", "0" + kind + "2:3" + letter);
            cannot(kind + " up to one behind", "abc", "0" + kind + "2:4" + letter);
            cannot(kind + " from the last gap to one behind", "abc", "0" + kind + "3:4" + letter);
            cannot(kind + " from one behind to one there", "abc", "0" + kind + "4:2" + letter);
            can(kind + " from the first gap", "abc", "0" + kind + "0:1" + letter);
            cannot(kind + " of no letter", "abc", "0" + kind + "1:1" + letter);
            cannot(kind + " of no letter at the last gap", "abc", "0" + kind + "3:3" + letter);
            cannot(kind + " the other way", "abc", "0" + kind + "2:1" + letter);
            cannot(kind + " in an empty text", "", "0" + kind + "0:0" + letter);
            can(kind + " of 60 letters", SIXTY, "0" + kind + "0:60" + letter);
            cannot(kind + " of 60 letters where there are 59", SIXTY.substring(1), "0" + kind + "0:60" + letter);
        }
        says("if there are 20 marks", "the 20th is made, the 21st is not", () -> {
            FiveInks x = withTwentyMarks();
            due(0, mark(x, "1+0x"));
            x.wash(0);
            due(1, mark(x, "1+0x,1+1x"));
            due(20, x.count(2));
            due(0, mark(x, "1+2x"));
        });
        says("if there are 20 marks", "accepted and refused ones are marks, too", () -> {
            FiveInks x = accepting(withTwentyMarks(), 0);
            x.refuse(1);
            due(0, mark(x, "1+0x"));
        });
        String ownInk = "or if it clashes with a mark of the same ink that is not refused";
        says(ownInk, "an open one, also of the same pad", () -> {
            due(0, mark(with("abcdef", "0-1:3"), "0=2:4x"));
            due(1, mark(with("abcdef"), "0-1:3,0+2x"));
            due(1, mark(with("abcdef"), "0+2x,0+2y"));
        });
        says(ownInk, "an accepted one", () -> due(0, mark(accepting(with("abcdef", "0-1:3"), 0), "0=2:4x")));
        says(ownInk, "a refused one does not matter", () -> {
            FiveInks x = with("abcdef", "0-1:3,0+3x");
            x.refuse(0);
            x.refuse(1);
            due(2, mark(x, "0=1:3x,0+3y"));
        });
        says(ownInk, "one of another ink does not matter", () -> due(1, mark(accepting(with("abcdef", "0-1:3"), 0), "1=2:4x")));
        says(ownInk, "one that only touches it does not matter", () ->
            due(4, mark(with("abcdef", "0-1:3"), "0=3:4x,0+1y,0+3z,0-0:1")));
        says(ownInk, "the first and the last of 19", () -> {
            FiveInks x = withTwentyMarks();
            x.wash(10);
            due(0, mark(x, "0+0x"));
            due(0, mark(x, "0+19x"));
            due(1, mark(x, "0+10x"));
        });
    }

    private static void strike() {
        section("Promise 5: strike");
        says("Strikes letters out, as a mark of the kind 0", "the first letter, the last one, all", () -> {
            FiveInks x = with("abc");
            due(0, x.strike(0, 0, 1));
            due(1, x.strike(1, 2, 3));
            due(2, x.strike(2, 0, 3));
            due("0-0:1,1-2:3,2-0:3", gaps(x));
            due("000", states(x));
        });
        aChange("This is a change.", "one letter", () -> with("abc"), x -> x.strike(0, 2, 3));
        says("Returns the number of the mark", "0 and 19", () -> {
            FiveInks x = withTwentyMarks();
            x.wash(19);
            due(19, x.strike(1, 0, 1));
            due(0, with("a").strike(0, 0, 1));
        });
        String noSuch = "NO_SUCH if there is no such editor or gap";
        says(noSuch, "the editors -1 and 5", () -> {
            FiveInks x = with("abc");
            for (int editor : new int[] {-1, 5, Integer.MIN_VALUE, Integer.MAX_VALUE}) {
                due(NO_SUCH, x.strike(editor, 0, 1));
            }
        });
        says(noSuch, "the gaps a of -1 and n + 1", () -> {
            FiveInks x = with("abc");
            for (int a : new int[] {-1, 4, Integer.MIN_VALUE, Integer.MAX_VALUE}) {
                due(NO_SUCH, x.strike(0, a, 3));
            }
        });
        says(noSuch, "the gaps b of -1 and n + 1", () -> {
            FiveInks x = with("abc");
            for (int b : new int[] {-1, 4, Integer.MIN_VALUE, Integer.MAX_VALUE}) {
                due(NO_SUCH, x.strike(0, 0, b));
            }
            due(0, x.strike(0, 0, 3));
        });
        says(noSuch, "the gap 61 of 60 letters, the gap 1 of none", () -> {
            due(NO_SUCH, with(SIXTY).strike(0, 0, 61));
            due(0, with(SIXTY).strike(0, 0, 60));
            due(NO_SUCH, new FiveInks().strike(0, 0, 1));
        });
        says("BAD_VALUE if b is not greater than a", "one greater, the same, one less", () -> {
            FiveInks x = with("abc");
            due(0, x.strike(0, 1, 2));
            due(BAD_VALUE, x.strike(0, 2, 2));
            due(BAD_VALUE, x.strike(0, 3, 2));
            due(BAD_VALUE, x.strike(0, 0, 0));
            due(BAD_VALUE, x.strike(0, 3, 3));
        });
        says("TOO_MANY if there are 20 marks", "the 20th, and the 21st", () -> {
            FiveInks x = withTwentyMarks();
            due(TOO_MANY, x.strike(1, 0, 1));
            x.wash(7);
            due(19, x.strike(1, 0, 1));
            due(TOO_MANY, x.strike(2, 0, 1));
        });
        String ownInk = "NOT_POSSIBLE if it clashes with a mark of the same ink that is not refused";
        says(ownInk, "an open one, by one letter, and beside it", () -> {
            FiveInks x = with("abcdef", "0-2:4");
            due(NOT_POSSIBLE, x.strike(0, 1, 3));
            due(NOT_POSSIBLE, x.strike(0, 3, 5));
            due(1, x.strike(0, 1, 2));
            due(2, x.strike(0, 4, 5));
        });
        says(ownInk, "one put in, in the midst of it, and at its ends", () -> {
            FiveInks x = with("abcdef", "0+2x");
            due(NOT_POSSIBLE, x.strike(0, 1, 3));
            due(1, x.strike(0, 1, 2));
            due(2, x.strike(0, 2, 3));
        });
        says(ownInk, "a replacement", () -> due(NOT_POSSIBLE, with("abcdef", "0=2:4x").strike(0, 3, 4)));
        says(ownInk, "an accepted one", () -> due(NOT_POSSIBLE, accepting(with("abcdef", "0-2:4"), 0).strike(0, 2, 3)));
        says(ownInk, "a refused one, and one of another ink, do not matter", () -> {
            FiveInks x = with("abcdef", "0-2:4,1-2:4");
            x.refuse(0);
            due(2, x.strike(0, 2, 4));
        });
    }

    private static void accept() {
        section("Promise 6: accept");
        says("Accepts a mark", "the first one, and the twentieth", () -> {
            FiveInks x = accepting(withTwentyMarks(), 0, 19);
            due("10000000000000000001", states(x));
            due("aabcdefghijklmnopqrsat", print(x));
        });
        aChange("This is a change.", "marks are refused by it", () -> with("abc", "0-0:2,1-1:3,2+1x"), x -> x.accept(0));
        says("Returns how many marks are refused by that", "0 and 1", () -> {
            due(0, with("abc", "0-0:1,1-1:2").accept(0));
            due(1, with("abc", "0-0:2,1-1:2").accept(0));
        });
        says("NO_SUCH if there is no such mark", "-1, the number of marks, 20", () -> {
            FiveInks x = withTwentyMarks();
            due(NO_SUCH, x.accept(-1));
            due(NO_SUCH, x.accept(20));
            due(NO_SUCH, with("abc", "0-0:1").accept(1));
            due(NO_SUCH, new FiveInks().accept(0));
            due(NO_SUCH, x.accept(Integer.MIN_VALUE));
            due(NO_SUCH, x.accept(Integer.MAX_VALUE));
        });
        says("NOT_POSSIBLE if it is not open", "accepted", () -> due(NOT_POSSIBLE, accepting(with("abc", "0-0:1"), 0).accept(0)));
        says("NOT_POSSIBLE if it is not open", "refused", () -> {
            FiveInks x = with("abc", "0-0:1");
            x.refuse(0);
            due(NOT_POSSIBLE, x.accept(0));
        });
        says("an accepted one clashes with it", "made behind it, of each kind", () -> {
            FiveInks x = accepting(with("abcdef", "0-1:3,0+5x"), 0, 1);
            due(4, mark(x, "1-2:4,2+2y,3=0:2z,1+5w"));
            for (int i = 2; i < 6; i++) {
                due(NOT_POSSIBLE, x.accept(i));
            }
        });
        says("an accepted one clashes with it", "no longer, when that one is washed", () -> {
            FiveInks x = accepting(with("abcdef", "0-1:3"), 0);
            due(1, x.strike(1, 2, 4));
            due(NOT_POSSIBLE, x.accept(1));
            due(1, x.wash(0));
            due(0, x.accept(0));
        });
        String sixty = "or the print would have more than 60 letters";
        says(sixty, "60 letters", () -> due(60, accepting(with(SIXTY.substring(6), "0+0abcdef"), 0).count(1)));
        says(sixty, "61 letters", () -> {
            due(NOT_POSSIBLE, with(SIXTY.substring(5), "0+0abcdef").accept(0));
            due(NOT_POSSIBLE, with(SIXTY, "0+60a").accept(0));
        });
        says(sixty, "61 letters by a replacement, 60 by another one", () -> {
            due(NOT_POSSIBLE, with(SIXTY, "0=3:4ab").accept(0));
            due(0, with(SIXTY, "0=3:5ab").accept(0));
            due(0, with(SIXTY, "0-3:5").accept(0));
        });
        says(sixty, "accepted ones count", () -> {
            FiveInks x = printOfSixty();
            due(60, x.count(1));
            due(NOT_POSSIBLE, x.accept(1));
            due(0, x.accept(2));
            due(0, x.accept(1));
            due(60, x.count(1));
        });
    }

    private static void refuse() {
        section("Promise 7: refuse");
        says("Refuses an open mark", "the first one, and the twentieth", () -> {
            FiveInks x = withTwentyMarks();
            due(19, x.refuse(0));
            due(18, x.refuse(19));
            due("20000000000000000002", states(x));
        });
        aChange("This is a change.", "one of two", () -> with("abc", "0-0:2,1-1:3"), x -> x.refuse(1));
        says("Returns how many open marks are left", "19 and 0", () -> {
            due(19, withTwentyMarks().refuse(7));
            due(0, with("abc", "0-0:1").refuse(0));
        });
        says("Returns how many open marks are left", "accepted and refused ones are not counted", () -> {
            FiveInks x = accepting(with("abcd", "0-0:1,1-1:2,2-2:3,3-3:4"), 0);
            due(2, x.refuse(1));
            due(1, x.refuse(2));
            due(0, x.refuse(3));
        });
        says("NO_SUCH if there is no such mark", "-1, the number of marks, 20", () -> {
            FiveInks x = withTwentyMarks();
            due(NO_SUCH, x.refuse(-1));
            due(NO_SUCH, x.refuse(20));
            due(NO_SUCH, with("abc", "0-0:1").refuse(1));
            due(NO_SUCH, new FiveInks().refuse(0));
            due(NO_SUCH, x.refuse(Integer.MIN_VALUE));
            due(NO_SUCH, x.refuse(Integer.MAX_VALUE));
        });
        says("NOT_POSSIBLE if it is not open", "accepted", () -> due(NOT_POSSIBLE, accepting(with("abc", "0-0:1"), 0).refuse(0)));
        says("NOT_POSSIBLE if it is not open", "refused, by a call and by an acceptance", () -> {
            FiveInks x = with("abc", "0-0:1,1-0:2,2-2:3");
            x.refuse(2);
            due(NOT_POSSIBLE, x.refuse(2));
            x.accept(0);
            due(NOT_POSSIBLE, x.refuse(1));
        });
    }

    private static void wash() {
        section("Promise 8: wash");
        String away = "Takes a mark away, whether open, accepted or refused";
        says(away, "an open one", () -> {
            FiveInks x = with("abc", "0-0:1,1+1x");
            due(1, x.wash(0));
            due("1+1", gaps(x));
            due("abc", seen(x, 0));
        });
        says(away, "an accepted one: its letters are back", () -> {
            FiveInks x = accepting(with("abc", "0=0:2x,1-1:2"), 0);
            due(1, x.wash(0));
            due("abc", print(x));
            due("2", states(x));
        });
        says(away, "a refused one", () -> {
            FiveInks x = with("abc", "0-0:1,1+1x");
            x.refuse(0);
            due(1, x.wash(0));
            due("0", states(x));
        });
        says("those behind it move up", "the first of three, with letters and all", () -> {
            FiveInks x = accepting(with("abcdef", "0-0:1,1+2uvwxyz,4=3:5pq"), 1);
            due(2, x.wash(0));
            due("1+2,4=3:5", gaps(x));
            due("10", states(x));
            due("abuvwxyzcdef", print(x));
            due("abuvwxyzcpqf", seen(x, 4));
        });
        says("those behind it move up", "one in the midst, and the last one", () -> {
            FiveInks x = with("abcdef", "0-0:1,1+2x,4=3:5pq");
            due(2, x.wash(1));
            due("0-0:1,4=3:5", gaps(x));
            due(1, x.wash(1));
            due("0-0:1", gaps(x));
        });
        says("those behind it move up", "of twenty", () -> {
            FiveInks x = withTwentyMarks();
            due(19, x.wash(0));
            due(1, x.of(0, 2));
            due(19, x.of(18, 2));
            due(NO_SUCH, x.of(19, 2));
        });
        says(away, "the last one: no count and no letter of it is left", () -> {
            FiveInks x = accepting(with("abcdef", "0-0:2,1+3xyz"), 1);
            due(1, x.wash(1));
            due("abcdef", print(x));
            due("0000", "" + x.count(4) + x.editor(1, 1) + x.editor(1, 3) + x.editor(1, 2));
            due(1, mark(x, "2-3:5"));
            x.wash(0);
            due("2-3:5", gaps(x));
            due("abcdef", text(shipped(x)));
            due("2-3:5", gaps(x));
        });
        says(away, "an accepted one: when the text is shipped, nothing of it moves a gap", () -> {
            FiveInks x = accepting(with("abcdef", "2-3:5,1+3xyz"), 1);
            due(1, x.wash(1));
            due("2-3:5", gaps(shipped(x)));
        });
        says(away, "an accepted one: it does not clash any more", () -> {
            FiveInks x = accepting(with("abcdef", "2-0:1,1-3:5"), 1);
            due(1, x.wash(1));
            due(1, x.strike(2, 3, 5));
            due(0, x.accept(1));
        });
        says(away, "an open one: it is not refused, and does not quarrel any more", () -> {
            FiveInks x = with("abcdef", "2-3:5,1-3:5");
            due(1, x.wash(1));
            due(0, x.of(0, 6));
            due(0, x.count(5));
            due(0, x.ifAccepted(0, 0));
            due(0, x.accept(0));
            due(1, x.strike(1, 3, 5));
        });
        aChange("This is a change.", "an accepted one", () -> accepting(with("abc", "0-0:1,1+1x"), 0), x -> x.wash(0));
        aChange("This is a change.", "the last one of twenty", ChangesSentences::withTwentyMarks, x -> x.wash(19));
        says("Returns how many marks are left", "19 and 0", () -> {
            due(19, withTwentyMarks().wash(5));
            due(0, with("abc", "0-0:1").wash(0));
        });
        says("NO_SUCH if there is no such mark", "-1, the number of marks, 20", () -> {
            FiveInks x = withTwentyMarks();
            due(NO_SUCH, x.wash(-1));
            due(NO_SUCH, x.wash(20));
            due(NO_SUCH, with("abc", "0-0:1").wash(1));
            due(NO_SUCH, new FiveInks().wash(0));
            due(NO_SUCH, x.wash(Integer.MIN_VALUE));
            due(NO_SUCH, x.wash(Integer.MAX_VALUE));
        });
        String sixty = "NOT_POSSIBLE if the print would have more than 60 letters without it";
        says(sixty, "61 letters", () -> {
            FiveInks x = accepting(printOfSixty(), 2, 1);
            due(60, x.count(1));
            due(NOT_POSSIBLE, x.wash(2));
            due("1112", states(x));
        });
        says(sixty, "60 letters", () -> {
            FiveInks x = accepting(printOfSixty(), 2);
            due(59, x.count(1));
            due(3, x.wash(2));
            due(60, x.count(1));
        });
        says(sixty, "an accepted replacement that made it shorter: 61, and 60", () -> {
            FiveInks x = accepting(with(SIXTY, "0=0:3ab,1+10c"), 0, 1);
            due(NOT_POSSIBLE, x.wash(0));
            due(1, x.wash(1));
            due(0, x.wash(0));
        });
        says(sixty, "open and refused ones, and those put in, can go", () -> {
            FiveInks x = printOfSixty();
            due(3, x.wash(3));
            due(2, x.wash(2));
            due(1, x.wash(1));
            due(0, x.wash(0));
        });
    }

    private static void judge() {
        section("Promise 9: judge");
        aChange("This is a change.", "with all verdicts", () -> with("abcdef", "0-0:2,1-1:3,2+2x"), FiveInks::judge);
        aChange("This is a change.", "nothing is open", () -> with("abc"), FiveInks::judge);
        String each = "each that is still open is accepted, if accept() could do so, otherwise refused";
        says(each, "those refused by a verdict on another one stay refused", () -> {
            FiveInks x = with("abcdef", "3-0:2,1-1:4,0-3:5");
            due(2, x.judge());
            due("121", states(x));
        });
        says(each, "an accepted one clashes with it", () -> {
            FiveInks x = accepting(with("abcdef", "0-0:2"), 0);
            due(1, x.strike(4, 1, 3));
            due(0, x.judge());
            due("12", states(x));
        });
        says(each, "the print has 60 letters, and would have 61", () -> {
            FiveInks x = with(SIXTY.substring(2), "0+0a,1+1bc,2+2d,3+3e");
            due(2, x.judge());
            due(60, x.count(1));
            due("2211", states(x));
        });
        says(each, "a strike of a higher rank makes room", () -> {
            FiveInks x = with(SIXTY, "0+0a,4-9:10");
            due(2, x.judge());
            due(60, x.count(1));
            due("11", states(x));
            x = with(SIXTY, "4+0a,0-9:10");
            due(1, x.judge());
            due(59, x.count(1));
            due("21", states(x));
        });
        says(each, "accepted and refused ones stay as they are", () -> {
            FiveInks x = accepting(with("abcdef", "0-0:1,4-1:2,4-2:3"), 0);
            x.refuse(1);
            due(1, x.judge());
            due("121", states(x));
        });
        says("Returns how many are accepted", "0 and 20", () -> {
            due(0, new FiveInks().judge());
            due(20, withTwentyMarks().judge());
        });
        says("Returns how many are accepted", "not those that were accepted before", () -> {
            due(2, accepting(with("abcdef", "0-0:1,4-1:2,4-2:3"), 0).judge());
        });
    }

    private static void orderOfJudging() {
        String order = "the open marks are gone through, those of editors with higher ranks first";
        says(order, "the ranks at first: 4 ahead of 3, and so on to 0", () -> {
            for (int low = 0; low < 4; low++) {
                FiveInks x = with("abc", low + "-0:2," + (low + 1) + "-1:3");
                due(1, x.judge());
                due("21", states(x));
                x = with("abc", (low + 1) + "-0:2," + low + "-1:3");
                due(1, x.judge());
                due("12", states(x));
            }
        });
        says(order, "the ranks 9 and 8, 1 and 0", () -> {
            for (int high : new int[] {9, 1}) {
                FiveInks x = with("abc", "4-0:2,0-1:3");
                x.rank(4, high - 1);
                x.rank(0, high);
                due(1, x.judge());
                due("21", states(x));
            }
        });
        says(order, "also the ranks 9 and 0 alone", () -> {
            for (int rank : new int[] {0, 9}) {
                FiveInks x = with("abc", "2-0:2");
                x.rank(2, rank);
                due(1, x.judge());
            }
        });
        String lowest = "of several the lowest mark first";
        says(lowest, "of one editor, the print would be too long with both", () -> {
            FiveInks x = with(SIXTY.substring(1), "3+5a,3+0b");
            due(1, x.judge());
            due("12", states(x));
        });
        says(lowest, "of two editors of one rank", () -> {
            FiveInks x = with("abc", "4-0:2,0-1:3");
            x.rank(0, 4);
            due(1, x.judge());
            due("12", states(x));
            x = with("abc", "0-0:2,4-1:3");
            x.rank(0, 4);
            due(1, x.judge());
            due("12", states(x));
        });
        says(lowest, "of all five editors, of one rank", () -> {
            FiveInks x = with("abcdef", "2-0:2,4-1:3,0-2:4,3-3:5,1-4:6");
            for (int editor = 0; editor < 5; editor++) {
                x.rank(editor, 9);
            }
            due(3, x.judge());
            due("12121", states(x));
        });
        says("by the ranks and marks of now", "ranks of now, not those when the marks were made", () -> {
            FiveInks x = with("abc", "0-0:2,1-1:3");
            x.rank(0, 2);
            due(1, x.judge());
            due("12", states(x));
        });
        says("by the ranks and marks of now", "the numbers of now, when others were washed", () -> {
            FiveInks x = with("abc", "2-0:1,0-0:2,1-1:3");
            x.rank(0, 1);
            x.wash(0);
            due(1, x.judge());
            due("12", states(x));
        });
    }

    private static void ship() {
        section("Promise 10: ship");
        says("Ships the text", "the print becomes the text, and a version", () -> {
            FiveInks x = shipped(accepting(with("abc", "0=1:2xy"), 0));
            due("axyc", text(x));
            due("axyc", print(x));
            due("axyc", version(x, 0));
        });
        aChange("This is a change.", "marks go and are carried over", () ->
            accepting(with("abcdef", "0-0:2,1+3x,2-1:3,1-4:5"), 0), FiveInks::ship);
        aChange("This is a change.", "there is no text", FiveInks::new, FiveInks::ship);
        aChange("This is a change.", "six versions are kept: the oldest one comes back", () -> {
            FiveInks x = with("abcdefgh");
            for (int i = 0; i < 6; i++) {
                x.strike(0, 0, 1);
                shipped(accepting(x, 0));
            }
            return x;
        }, FiveInks::ship);
        says("Returns the number of the version: how many were shipped ahead of it", "0, 5, 6, 7 and more", () -> {
            FiveInks x = with("abc");
            for (int i = 0; i < 14; i++) {
                due(i, x.ship());
            }
        });
        says("(since the text was begun)", "0 again behind begin", () -> {
            FiveInks x = shipped(shipped(with("abc")));
            x.begin();
            due(0, x.ship());
            due(1, x.ship());
        });
        says("how many were shipped ahead of it", "one that is undone is not", () -> {
            FiveInks x = shipped(with("abc"));
            x.undo();
            due(0, x.ship());
        });
    }
}
