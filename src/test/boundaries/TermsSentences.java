/** The sentences of "Terms" and "Texts": conventions, the text and its gaps, texts of marks. */
final class TermsSentences extends Sentences {
    private TermsSentences() {
    }

    static void all() {
        calls();
        conventions();
        textAndGaps();
        padAndGrammar();
        whatCanStand();
        faults();
    }

    private static void calls() {
        section("What it is");
        says("An object is used for at most 512 calls", "the 512th answers, too", () -> {
            FiveInks x = new FiveInks();
            for (int i = 0; i < 510; i++) {
                due(i == 0 ? 3 : (i + 9) % 10, x.rank(3, i % 10));
            }
            due(9, x.editor(3, 0));
            due(5, x.undo());
        });
        says("An object is used for at most 512 calls", "the 512th change is made, and can be undone", () -> {
            FiveInks x = new FiveInks();
            for (int i = 0; i < 511; i++) {
                due(i, x.ship());
            }
            due(511, x.ship());
            x = new FiveInks();
            for (int i = 0; i < 510; i++) {
                due(0, x.judge());
            }
            due(6, x.count(9));
            due(5, x.undo());
        });
    }

    private static void conventions() {
        section("Terms");
        String fails = "A method that fails returns one of the error codes NO_SUCH (-1), BAD_VALUE (-2), BAD_TEXT (-3), "
            + "TOO_MANY (-4) and NOT_POSSIBLE (-5)";
        says(fails, "NO_SUCH is -1", () -> due(-1, new FiveInks().accept(0)));
        says(fails, "BAD_VALUE is -2", () -> due(-2, new FiveInks().count(10)));
        says(fails, "BAD_TEXT is -3", () -> due(-3, new FiveInks().mark()));
        says(fails, "TOO_MANY is -4", () -> due(-4, withTwentyMarks().strike(1, 0, 1)));
        says(fails, "NOT_POSSIBLE is -5", () -> due(-5, new FiveInks().undo()));
        says("NONE (-6) is not an error", "fault() answers it, and the marks can be made", () -> {
            FiveInks x = with("abc");
            pad(x, "0-0:1");
            due(-6, x.fault());
            due(1, x.mark());
        });
        says("it is returned only if no error applies", "fault() of an empty pad, and of one that ends too early", () -> {
            FiveInks x = new FiveInks();
            due(0, x.fault());
            pad(x, "0-0:");
            due(4, x.fault());
        });
        says("Everything is numbered from 0", "editors, marks, letters, versions, slots", () -> {
            FiveInks x = new FiveInks();
            due(0, x.rank(0, 1));
            due(1, begin(x, "b"));
            due(0, x.strike(0, 0, 1));
            due(1, x.letter(0, 0));
            due(0, x.ship());
            due(1, x.version(0, 0));
            due(1, x.save(0));
        });
    }

    private static void textAndGaps() {
        says("The text is a row of 0 to 60 letters", "0 letters", () -> {
            FiveInks x = with("");
            due(0, x.count(0));
            due(NO_SUCH, x.letter(0, 0));
        });
        says("The text is a row of 0 to 60 letters", "1 letter", () -> {
            due(1, with("q").count(0));
            due("q", text(with("q")));
        });
        says("The text is a row of 0 to 60 letters", "59 letters", () -> due(SIXTY.substring(1), text(with(SIXTY.substring(1)))));
        says("The text is a row of 0 to 60 letters", "60 letters", () -> {
            due(60, with(SIXTY).count(0));
            due(SIXTY, text(with(SIXTY)));
        });
        says("The text is a row of 0 to 60 letters", "a text of 60 may become one of 60, but not of 61", () -> {
            FiveInks x = with(SIXTY.substring(1), "0+0y,1+59z");
            due(0, x.accept(0));
            due(NOT_POSSIBLE, x.accept(1));
            due(0, x.ship());
            due("y" + SIXTY.substring(1), text(x));
            due(NOT_POSSIBLE, x.accept(0));
        });
        says("a to z (as numbers 0 to 25)", "all 26 of them", () -> {
            FiveInks x = with("abcdefghijklmnopqrstuvwxyz");
            for (int i = 0; i < 26; i++) {
                due(i, x.letter(0, i));
            }
        });
        says("it is empty at first", "a new object, and what it begins without a pad", () -> {
            due("", text(new FiveInks()));
            due(0, new FiveInks().count(0));
        });
        for (String text : new String[] {"", "a", "abc", SIXTY}) {
            int n = text.length();
            says("With n letters there are the gaps 0 to n", "n is " + n, () -> {
                due(1, mark(with(text), "0+0x"));
                due(1, mark(with(text), "0+" + n + "x"));
                due(n == 0 ? BAD_VALUE : 0, with(text).strike(0, 0, n));
                due(NO_SUCH, with(text).strike(0, 0, n + 1));
                due(NO_SUCH, with(text).strike(0, n + 1, n));
                due(NO_SUCH, with(text).strike(0, -1, n));
                if (n < 60) {
                    due(0, mark(with(text), "0+" + (n + 1) + "x"));
                }
            });
        }
        says("the gap g is ahead of the letter g", "0, one in the midst, and the last letter", () -> {
            due("xabc", print(accepting(with("abc", "0+0x"), 0)));
            due("axbc", print(accepting(with("abc", "0+1x"), 0)));
            due("abxc", print(accepting(with("abc", "0+2x"), 0)));
        });
        says("the gap n behind the last one", "with 3 letters, with 59, with none", () -> {
            due("abcx", print(accepting(with("abc", "0+3x"), 0)));
            due(SIXTY.substring(1) + "x", print(accepting(with(SIXTY.substring(1), "0+59x"), 0)));
            due("x", print(accepting(with("", "0+0x"), 0)));
        });
    }

    private static void padAndGrammar() {
        section("Texts");
        says("The pad is a text of at most 60 characters", "60 stand, the 61st does not", () -> {
            FiveInks x = new FiveInks();
            pad(x, SIXTY);
            due(60, x.count(8));
            due(TOO_MANY, x.put('z'));
            due(60, x.begin());
        });
        says("text = mark { \",\" mark }", "one mark", () -> due(NONE, faultOf("0-0:1")));
        says("text = mark { \",\" mark }", "twelve marks, in a full pad", () -> {
            String twelve = "0+0a,0+1a,0+2a,0+3a,0+4a,0+5a,0+6a,0+7a,0+8a,0+9a,1+0a,1+1ab";
            due(60, twelve.length());
            due(NONE, faultOf(twelve));
            due(12, mark(with("abcdefghij"), twelve));
        });
        says("text = mark { \",\" mark }", "no mark ahead of a comma, between two, or behind one", () -> {
            due(0, faultOf(",0-0:1"));
            due(6, faultOf("0-0:1,,0-1:2"));
            due(6, faultOf("0-0:1,"));
        });
        says("mark = ink ( \"-\" gap \":\" gap | \"+\" gap letters | \"=\" gap \":\" gap letters )", "each of the three", () -> {
            FiveInks x = with("abcdef", "0-1:3,1+2xy,2=3:6z");
            due("0-1:3,1+2,2=3:6", gaps(x));
            due(0, x.of(0, 4));
            due(2, x.of(1, 4));
            due(1, x.of(2, 4));
            due("adef", seen(x, 0));
            due("abxycdef", seen(x, 1));
            due("abcz", seen(x, 2));
        });
        says("an ink is a digit from 0 to 4", "each of them", () -> {
            for (int ink = 0; ink <= 4; ink++) {
                due(ink, with("abc", ink + "-0:1").of(0, 0));
            }
        });
        says("an ink is a digit from 0 to 4", "5, and the signs beside the digits", () -> {
            due(0, faultOf("5-0:1"));
            due(0, faultOf("/-0:1"));
            due(0, faultOf("9-0:1"));
        });
        says("a gap a number from 0 to 60 without leading zeros", "each of them, in each place", () -> {
            for (int gap = 0; gap <= 60; gap++) {
                due(NONE, faultOf("0-" + gap + ":" + gap));
                due(NONE, faultOf("0+" + gap + "a"));
                due(NONE, faultOf("0=" + gap + ":" + gap + "a"));
                due("0+" + gap, gaps(with(SIXTY, "0+" + gap + "a")));
            }
        });
        says("a gap a number from 0 to 60 without leading zeros", "61 and more", () -> {
            for (int gap = 61; gap <= 99; gap++) {
                due(3, faultOf("0-" + gap + ":1"));
                due(5, faultOf("0-0:" + gap));
                due(3, faultOf("0+" + gap + "a"));
                due(5, faultOf("0=0:" + gap + "a"));
            }
        });
        says("a gap a number from 0 to 60 without leading zeros", "leading zeros", () -> {
            due(3, faultOf("0-00:1"));
            due(3, faultOf("0-01:2"));
            due(5, faultOf("0-0:01"));
            due(3, faultOf("0+05a"));
            due(3, faultOf("0=060:1a"));
        });
        says("letters are 1 to 6", "1, 6, none and 7", () -> {
            due(NONE, faultOf("0+0a"));
            due(NONE, faultOf("0+0abcdef"));
            due(3, faultOf("0+0,"));
            due(9, faultOf("0+0abcdefg"));
            due(NONE, faultOf("0=0:1a"));
            due(NONE, faultOf("0=0:1abcdef"));
            due(5, faultOf("0=0:1,"));
            due(11, faultOf("0=0:1abcdefg"));
        });
    }

    /** Which characters can stand behind a beginning of a text: these, and no other one of all that a pad can hold. */
    private static void stands(String ahead, String those) {
        says("The fault is the index of the first character that cannot stand at its place when the text is read from left"
            + " to right", "behind \"" + ahead + "\"", () -> {
                for (char next = 33; next <= 126; next++) {
                    boolean isFault = faultOf(ahead + next) == ahead.length();
                    due(those.indexOf(next) < 0, isFault);
                }
            });
    }

    private static void whatCanStand() {
        String digits = "0123456789";
        String small = "abcdefghijklmnopqrstuvwxyz";
        stands("", "01234");
        stands("0", "-+=");
        stands("4", "-+=");
        for (String ahead : new String[] {"0-", "0+", "0=", "0-1:", "0=1:"}) {
            stands(ahead, digits);
        }
        for (String ahead : new String[] {"0-", "0="}) {
            stands(ahead + "0", ":");
            stands(ahead + "1", ":" + digits);
            stands(ahead + "5", ":" + digits);
            stands(ahead + "6", ":0");
            stands(ahead + "7", ":");
            stands(ahead + "10", ":");
            stands(ahead + "60", ":");
        }
        for (String ahead : new String[] {"0+", "0=9:"}) {
            stands(ahead + "0", small);
            stands(ahead + "1", small + digits);
            stands(ahead + "5", small + digits);
            stands(ahead + "6", small + "0");
            stands(ahead + "9", small);
            stands(ahead + "10", small);
            stands(ahead + "60", small);
            stands(ahead + "3a", small + ",");
            stands(ahead + "3abcde", small + ",");
            stands(ahead + "3abcdef", ",");
        }
        stands("0-9:0", ",");
        stands("0-9:1", "," + digits);
        stands("0-9:5", "," + digits);
        stands("0-9:6", ",0");
        stands("0-9:9", ",");
        stands("0-9:10", ",");
        stands("0-9:60", ",");
        stands("0-9:10,", "01234");
        stands("0+9z,", "01234");
        stands("0+9z,3", "-+=");
    }

    private static void faults() {
        says("also of a digit by which a gap would be above 60", "the second digit, and a third one", () -> {
            due(3, faultOf("0-61:62"));
            due(4, faultOf("0-600:1"));
            due(4, faultOf("0-100:1"));
            due(6, faultOf("0-0:601"));
            due(NONE, faultOf("0-60:1"));
        });
        says("or of a seventh letter", "six, then a seventh", () -> {
            due(NONE, faultOf("0+0zzzzzz"));
            due(9, faultOf("0+0zzzzzzz"));
            due(9, faultOf("0+0zzzzzzzz,"));
        });
        says("which gaps there are, and whether b is greater, does not matter", "none there, b the same, b less", () -> {
            due(NONE, faultOf("0-0:1"));
            due(NONE, faultOf("0+60a"));
            due(NONE, faultOf("0-3:3"));
            due(NONE, faultOf("0-60:0"));
            due(NONE, faultOf("0=3:3a"));
            due(NONE, faultOf("0=60:59a"));
        });
        says("if there is none and the text ends too early (also if it is empty), it is the length of the text", "it is empty",
            () -> due(0, new FiveInks().fault()));
        for (String early : new String[] {"0", "0-", "0-6", "0-60", "0-60:", "0+", "0+1", "0+10", "0=", "0=1", "0=10", "0=10:",
            "0=10:2", "0=10:20", "0-1:2,", "0-1:2,4", "0+1abcdef,"}) {
            says("if there is none and the text ends too early (also if it is empty), it is the length of the text",
                "behind \"" + early + "\"", () -> due(early.length(), faultOf(early)));
        }
        says("if there is none and the text ends too early (also if it is empty), it is the length of the text",
            "a full pad: 60", () -> {
                String almost = "0+0abcdef,0+1abcdef,0+2abcdef,0+3abcdef,0+4abcdef,0+5abcdef";
                due(59, almost.length());
                due(NONE, faultOf(almost));
                due(60, faultOf(almost + ","));
                due(59, faultOf(almost + "g"));
            });
        says("The constants: NO_SUCH = -1, BAD_VALUE = -2, BAD_TEXT = -3, TOO_MANY = -4, NOT_POSSIBLE = -5, NONE = -6",
            "as they are written", () -> {
                due(-1, FiveInks.NO_SUCH);
                due(-2, FiveInks.BAD_VALUE);
                due(-3, FiveInks.BAD_TEXT);
                due(-4, FiveInks.TOO_MANY);
                due(-5, FiveInks.NOT_POSSIBLE);
                due(-6, FiveInks.NONE);
            });
        says("STRIKE = 0, PUT_IN = 1, REPLACE = 2: Kinds of marks", "as they are written, and as of() tells them", () -> {
            FiveInks x = with("abc", "0-0:1,0+2z,0=2:3y");
            due(0, FiveInks.STRIKE);
            due(FiveInks.STRIKE, x.of(0, 1));
            due(1, FiveInks.PUT_IN);
            due(FiveInks.PUT_IN, x.of(1, 1));
            due(2, FiveInks.REPLACE);
            due(FiveInks.REPLACE, x.of(2, 1));
        });
    }

    static int faultOf(String text) {
        FiveInks x = new FiveInks();
        pad(x, text);
        due(text.length(), x.count(8));
        return x.fault();
    }
}
