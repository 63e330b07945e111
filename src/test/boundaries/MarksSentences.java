/** The sentences of "Marks", "Verdicts" and "Shipping". */
final class MarksSentences extends Sentences {
    private static final String OPEN_REFUSED = "When a mark is accepted, all open marks that clash with it are refused";
    private static final String PRINT = "The print is the text with all accepted marks carried out";
    private static final String LEFT_OUT = "the letters that they strike out or replace are left out";
    private static final String PUT_THERE = "those that they put in stand at their gap, or in place of the ones that are"
        + " left out";
    private static final String SEEN_ACCEPTED = "What an editor sees is the same with the accepted marks that do not clash"
        + " with an open mark of this ink";
    private static final String SEEN_OPEN = "and all open marks of this ink, together";
    private static final String KEPT = "the 6 latest versions are kept";
    private static final String GO = "Accepted and refused marks go";
    private static final String STAY = "the other open ones stay";
    private static final String MOVE_UP = "those behind a mark that goes move up";
    private static final String GAP_B = "the gap b (or the one gap of a mark of the kind 1) becomes the number of letters of"
        + " the print that come from ahead of this gap";
    private static final String GAP_A = "the gap a of the kinds 0 and 2 likewise, but what is put in at this gap itself by the"
        + " kind 1 counts, too";
    private static final String TWICE = "If two marks of the kind 1 of one ink come to the same gap by that, the later one"
        + " goes, too";

    private MarksSentences() {
    }

    static void all() {
        section("Marks");
        editorsAndMarks();
        kinds();
        clashes();
        quarrels();
        section("Verdicts");
        accepting();
        printing();
        seeing();
        section("Shipping");
        shipping();
        carriedOver();
        putInTwice();
    }

    // ---- Marks

    private static void editorsAndMarks() {
        says("There are 5 editors, 0 to 4", "0 and 4 are, -1 and 5 are not", () -> {
            FiveInks x = with("abc");
            due(0, x.strike(0, 0, 1));
            due(1, x.strike(4, 0, 1));
            due(NO_SUCH, x.strike(-1, 0, 1));
            due(NO_SUCH, x.strike(5, 0, 1));
        });
        says("each with an ink and a rank (0 to 9", "0 and 9 are ranks", () -> {
            FiveInks x = new FiveInks();
            due(2, x.rank(2, 0));
            due(0, x.rank(2, 9));
            due(9, x.editor(2, 0));
        });
        says("the number of the editor at first", "each of the five", () -> {
            for (int editor = 0; editor < 5; editor++) {
                due(editor, new FiveInks().editor(editor, 0));
            }
        });
        says("There are up to 20 marks", "19, 20, and no 21st", () -> {
            FiveInks x = withTwentyMarks();
            due(20, x.count(2));
            due(TOO_MANY, x.strike(1, 0, 1));
            due(19, x.wash(19));
            due(19, x.strike(1, 0, 1));
            due(TOO_MANY, x.strike(2, 0, 1));
            due(20, x.count(2));
        });
        says("numbered in the order in which they were made", "the first, and the twentieth", () -> {
            FiveInks x = withTwentyMarks();
            due(0, x.of(0, 2));
            due(19, x.of(19, 2));
            due(NO_SUCH, x.of(20, 2));
        });
        says("A mark is open (0", "at first, of each kind", () -> {
            due("000", states(with("abc", "0-0:1,1+0x,2=0:1y")));
            FiveInks x = with("abc");
            x.strike(3, 0, 1);
            due("0", states(x));
        });
        says("accepted (1) or refused (2)", "one of each", () -> {
            FiveInks x = accepting(with("abc", "0-0:1,1-1:2,2-2:3"), 0);
            x.refuse(1);
            due("120", states(x));
        });
    }

    private static void kinds() {
        says("kind 0 strikes out the letters from the gap a to the gap b (b is greater than a", "one letter, all, none", () -> {
            due("bcdef", seen(with("abcdef", "0-0:1"), 0));
            due("abcde", seen(with("abcdef", "0-5:6"), 0));
            due("", seen(with("abcdef", "0-0:6"), 0));
            due(0, mark(with("abcdef"), "0-3:3"));
            due(0, mark(with("abcdef"), "0-3:2"));
        });
        says("no letters of its own)", "a mark of the kind 0 puts nothing in", () -> {
            FiveInks x = with("abc", "0=0:1xyzxyz");
            x.wash(0);
            due(1, mark(x, "0-0:2"));
            due(0, x.of(0, 4));
            due("c", seen(x, 0));
            x.wash(0);
            due(0, x.strike(0, 1, 2));
            due(0, x.of(0, 4));
        });
        says("kind 1 puts 1 to 6 letters in at the gap a (b is the same)", "1 letter", () -> {
            FiveInks x = with("abc", "0+1x");
            due(1, x.of(0, 4));
            due(1, x.of(0, 2));
            due(1, x.of(0, 3));
            due("axbc", seen(x, 0));
        });
        says("kind 1 puts 1 to 6 letters in at the gap a (b is the same)", "6 letters", () -> {
            FiveInks x = with("abc", "0+3uvwxyz");
            due(6, x.of(0, 4));
            due(3, x.of(0, 2));
            due(3, x.of(0, 3));
            due("abcuvwxyz", seen(x, 0));
        });
        says("kind 1 puts 1 to 6 letters in at the gap a (b is the same)", "not 0, not 7", () -> {
            due(BAD_TEXT, mark(with("abc"), "0+1"));
            due(BAD_TEXT, mark(with("abc"), "0+1tuvwxyz"));
        });
        says("kind 2 puts 1 to 6 letters in place of those from the gap a to the gap b (b is greater than a)", "1 letter", () -> {
            due("xbc", seen(with("abc", "0=0:1x"), 0));
            due("x", seen(with("abc", "0=0:3x"), 0));
            due(1, with("abc", "0=0:1x").of(0, 4));
        });
        says("kind 2 puts 1 to 6 letters in place of those from the gap a to the gap b (b is greater than a)", "6 letters", () -> {
            due("abuvwxyz", seen(with("abc", "0=2:3uvwxyz"), 0));
            due(6, with("abc", "0=2:3uvwxyz").of(0, 4));
        });
        says("kind 2 puts 1 to 6 letters in place of those from the gap a to the gap b (b is greater than a)",
            "not 0, not 7, not in place of none", () -> {
                due(BAD_TEXT, mark(with("abc"), "0=0:1"));
                due(BAD_TEXT, mark(with("abc"), "0=0:1tuvwxyz"));
                due(0, mark(with("abc"), "0=1:1x"));
                due(0, mark(with("abc"), "0=2:1x"));
            });
    }

    /** How two marks clash that are made in this order, and in the other one; each has an ink of its own. */
    private static void clash(int want, String one, String other) {
        FiveInks x = with("abcdefgh", "0" + one, "1" + other);
        due(want, x.clash(0, 1));
        due(want, x.clash(1, 0));
        x = with("abcdefgh", "0" + other, "1" + one);
        due(want, x.clash(0, 1));
        due(want, x.clash(1, 0));
    }

    private static void clashes() {
        for (String one : new String[] {"-3:5", "=3:5x"}) {
            for (String kind : new String[] {"-", "="}) {
                String letters = kind.equals("=") ? "y" : "";
                String both = "both are of the kinds 0 and 2, and there is a letter that lies between the gaps of both";
                says(both, one + " and " + kind + ", beside", () -> {
                    clash(0, one, kind + "0:3" + letters);
                    clash(0, one, kind + "2:3" + letters);
                    clash(0, one, kind + "5:6" + letters);
                    clash(0, one, kind + "5:8" + letters);
                    clash(0, one, kind + "7:8" + letters);
                });
                says(both, one + " and " + kind + ", one letter", () -> {
                    clash(2, one, kind + "0:4" + letters);
                    clash(2, one, kind + "3:4" + letters);
                    clash(2, one, kind + "4:5" + letters);
                    clash(2, one, kind + "4:8" + letters);
                });
                says(both, one + " and " + kind + ", all letters", () -> {
                    clash(2, one, kind + "3:5" + letters);
                    clash(2, one, kind + "0:8" + letters);
                });
            }
            String greater = "the gap of the former is greater than the a, and less than the b, of the latter";
            says(greater, one + ": the first gap in it, and the last one", () -> {
                clash(2, one.replace('5', '6'), "+4z");
                clash(2, one.replace('5', '6'), "+5z");
            });
            says(greater, one + ": a and b themselves, and beyond", () -> {
                clash(0, one, "+2z");
                clash(0, one, "+3z");
                clash(0, one, "+5z");
                clash(0, one, "+6z");
            });
            says(greater, one + ": there is no gap in one letter", () -> {
                clash(2, one, "+4z");
                clash(0, one.replace('5', '4'), "+3z");
                clash(0, one.replace('5', '4'), "+4z");
            });
        }
        says("both are of the kind 1, and have the same gap", "the same, and one beside", () -> {
            clash(2, "+3x", "+3x");
            clash(2, "+3x", "+3yz");
            clash(0, "+3x", "+2x");
            clash(0, "+3x", "+4x");
        });
        says("both are of the kind 1, and have the same gap", "the first gap, and the last one", () -> {
            clash(2, "+0x", "+0y");
            clash(2, "+8x", "+8y");
            clash(0, "+0x", "+8y");
            due(2, with("", "0+0x,1+0y").clash(0, 1));
        });
    }

    private static void quarrels() {
        String unlike = "Two marks quarrel if they clash, have unlike inks, and neither is refused";
        says(unlike, "they do not clash", () -> due(0, with("abc", "0-0:1,1-1:2").of(0, 6)));
        says(unlike, "both are open", () -> {
            FiveInks x = with("abc", "0-0:2,1-1:2");
            due(2, x.clash(0, 1));
            due(1, x.of(0, 6));
            due(1, x.of(1, 6));
        });
        says(unlike, "one is accepted", () -> {
            FiveInks x = accepting(with("abc", "0-0:2"), 0);
            due(1, x.strike(1, 1, 2));
            due(2, x.clash(0, 1));
            due(2, x.clash(1, 0));
            due(1, x.of(0, 6));
            due(1, x.of(1, 6));
            due(1, x.count(5));
            due(1, x.editor(0, 5));
            due(1, x.editor(1, 5));
        });
        says(unlike, "the first one is refused", () -> {
            FiveInks x = with("abc", "0-0:2,1-1:2");
            x.refuse(0);
            due(1, x.clash(0, 1));
            due(1, x.clash(1, 0));
            due(0, x.of(0, 6));
            due(0, x.of(1, 6));
        });
        says(unlike, "the second one is refused", () -> {
            FiveInks x = with("abc", "0-0:2,1-1:2");
            x.refuse(1);
            due(1, x.clash(0, 1));
            due(1, x.clash(1, 0));
            due(0, x.count(5));
        });
        says(unlike, "both are refused", () -> {
            FiveInks x = with("abc", "0-0:2,1-1:2");
            x.refuse(0);
            x.refuse(1);
            due(1, x.clash(0, 1));
            due(0, x.count(5));
        });
        says(unlike, "the same ink", () -> {
            FiveInks x = with("abc", "0-0:2");
            x.refuse(0);
            due(1, x.strike(0, 1, 2));
            due(1, x.clash(0, 1));
            due(0, x.of(1, 6));
        });
    }

    // ---- Verdicts

    private static void accepting() {
        says(OPEN_REFUSED, "all the 19 other marks", () -> {
            FiveInks x = nineteenAgainstOne();
            due(19, x.accept(19));
            due("22222222222222222221", states(x));
        });
        says(OPEN_REFUSED, "those that only touch it stay open", () -> {
            FiveInks x = with("abcdef", "0-2:4,1-1:2,1-4:5,1+2x,1+4y,2=1:3z");
            due(1, x.accept(0));
            due("100002", states(x));
        });
        says(OPEN_REFUSED, "no mark is", () -> {
            FiveInks x = with("abcdef", "0-2:4");
            due(0, x.accept(0));
            due("1", states(x));
        });
        says(OPEN_REFUSED, "one that was refused before stays so, and does not count", () -> {
            FiveInks x = with("abcdef", "0-2:4,1-1:3,2-3:4");
            x.refuse(1);
            due(1, x.accept(0));
            due("122", states(x));
        });
        String only = "A mark can be accepted only if no accepted one clashes with it";
        says(only, "one letter in common", () -> {
            FiveInks x = accepting(with("abcdef", "0-2:4"), 0);
            due(2, mark(x, "1-1:3,2-3:6"));
            due(NOT_POSSIBLE, x.accept(1));
            due(NOT_POSSIBLE, x.accept(2));
        });
        says(only, "beside it", () -> {
            FiveInks x = accepting(with("abcdef", "0-2:4"), 0);
            due(2, mark(x, "1-1:2,2-4:6"));
            due(0, x.accept(1));
            due(0, x.accept(2));
        });
        says(only, "a refused one does not matter", () -> {
            FiveInks x = with("abcdef", "0-2:4,1-1:3");
            x.refuse(0);
            due(0, x.accept(1));
        });
        says("When a mark is refused, nothing else happens", "all the others stay as they are", () -> {
            FiveInks x = accepting(with("abcdef", "0-2:4,1-1:3,2-3:6,3-0:2,4+0x"), 4);
            due(3, x.refuse(1));
            due("02001", states(x));
            due("xabcdef", print(x));
            due(2, x.clash(0, 2));
        });
    }

    /** Nineteen marks of the ink 0, and one of the ink 4 that clashes with them all. */
    private static FiveInks nineteenAgainstOne() {
        return with("abcdefghijklmnopqrstu", "0+1a,0+2a,0+3a,0+4a,0+5a,0+6a,0+7a,0+8a,0+9a",
            "0+10a,0+11a,0+12a,0+13a,0+14a,0+15a,0+16a,0+17a", "0+18a,0+19a,4=0:21z");
    }

    private static void printing() {
        says(PRINT, "none is accepted", () -> {
            FiveInks x = with("abc", "0-0:1,1+1x,2=2:3y");
            x.refuse(0);
            due("abc", print(x));
        });
        says(PRINT, "twenty are accepted", () -> {
            FiveInks x = withTwentyMarks();
            due(20, x.judge());
            due("aaabacadaeafagahaiajakalamanaoapaqarasat", print(x));
        });
        says(PRINT, "an empty print, and one of 60 letters", () -> {
            due("", print(new FiveInks()));
            due("x" + SIXTY.substring(1), print(accepting(with(SIXTY.substring(1), "0+0x"), 0)));
        });
        says(LEFT_OUT, "the first letter, the last one, all", () -> {
            due("bcd", print(accepting(with("abcd", "0-0:1"), 0)));
            due("abc", print(accepting(with("abcd", "0-3:4"), 0)));
            due("", print(accepting(with("abcd", "0-0:4"), 0)));
            due("bc", print(accepting(with("abcd", "0-0:1,1-3:4"), 0, 1)));
            due("", print(accepting(with("abcd", "0-0:2,1-2:4"), 0, 1)));
            due("", print(accepting(with(SIXTY, "0-0:60"), 0)));
        });
        says(PUT_THERE, "at the first gap and at the last one", () -> {
            due("xabcd", print(accepting(with("abcd", "0+0x"), 0)));
            due("abcdx", print(accepting(with("abcd", "0+4x"), 0)));
            due("xyabcdz", print(accepting(with("abcd", "0+0xy,0+4z"), 0, 1)));
        });
        says(PUT_THERE, "in place of the first letter, of the last one, of all", () -> {
            due("xybcd", print(accepting(with("abcd", "0=0:1xy"), 0)));
            due("abcxy", print(accepting(with("abcd", "0=3:4xy"), 0)));
            due("xy", print(accepting(with("abcd", "0=0:4xy"), 0)));
            due("pqrxyz", print(accepting(with("abcd", "0=0:2pqr,1=2:4xyz"), 0, 1)));
        });
        says("At one gap, letters of the kind 1 stand ahead of those of the kind 2 that begin there", "first gap, midst", () -> {
            due("xybcd", print(accepting(with("abcd", "0=0:1y,1+0x"), 0, 1)));
            due("xybcd", print(accepting(with("abcd", "1+0x,0=0:1y"), 0, 1)));
            due("abxyd", print(accepting(with("abcd", "0=2:3y,1+2x"), 0, 1)));
        });
        says("and behind those that end there", "midst, last gap", () -> {
            due("ayxcd", print(accepting(with("abcd", "0=1:2y,1+2x"), 0, 1)));
            due("ayxcd", print(accepting(with("abcd", "1+2x,0=1:2y"), 0, 1)));
            due("abcyx", print(accepting(with("abcd", "0=3:4y,1+4x"), 0, 1)));
        });
        says("and behind those that end there", "one that ends, one put in, and one that begins at a gap", () -> {
            due("apqrd", print(accepting(with("abcd", "0=2:3r,1+2q,2=1:2p"), 0, 1, 2)));
            due("aqrd", print(accepting(with("abcd", "0=2:3r,1+2q,2-1:2"), 0, 1, 2)));
        });
    }

    private static void seeing() {
        says(SEEN_ACCEPTED, "without open ones it is the print", () -> {
            FiveInks x = accepting(with("abcd", "0-0:1,1+4x"), 0, 1);
            for (int editor = 0; editor < 5; editor++) {
                due("bcdx", seen(x, editor));
            }
        });
        says(SEEN_ACCEPTED, "one that clashes gives way, also if it is the editor's own neighbour's", () -> {
            FiveInks x = accepting(with("abcd", "0-0:2,0+4x"), 0, 1);
            due(1, mark(x, "1=1:3y"));
            due("aydx", seen(x, 1));
            due("cdx", seen(x, 0));
        });
        says(SEEN_ACCEPTED, "one that only touches stays", () -> {
            FiveInks x = accepting(with("abcd", "0-0:2"), 0);
            due(2, mark(x, "1-2:3,1+0y"));
            due("yd", seen(x, 1));
        });
        says(SEEN_ACCEPTED, "open marks of other inks do not matter", () -> {
            FiveInks x = accepting(with("abcd", "0-0:2"), 0);
            due(1, mark(x, "1=1:3y"));
            due("cd", seen(x, 2));
        });
        says(SEEN_ACCEPTED, "refused marks of this ink do not matter", () -> {
            FiveInks x = accepting(with("abcd", "0-0:2"), 0);
            due(1, mark(x, "1=1:3y"));
            x.refuse(1);
            due("cd", seen(x, 1));
        });
        says(SEEN_ACCEPTED, "an accepted put in gives way to one at the same gap", () -> {
            FiveInks x = accepting(with("abcd", "0+2x"), 0);
            due(2, mark(x, "1+2y,2+1z"));
            due("abycd", seen(x, 1));
            due("azbxcd", seen(x, 2));
        });
        says(SEEN_OPEN, "the first mark and the twentieth", () -> {
            FiveInks x = withTwentyMarks();
            due("aaabacadaeafagahaiajakalamanaoapaqarasat", seen(x, 0));
            due("abcdefghijklmnopqrst", seen(x, 1));
        });
        says(SEEN_OPEN, "not the refused ones", () -> {
            FiveInks x = with("abc", "0-0:1,0-2:3");
            x.refuse(0);
            due("ab", seen(x, 0));
        });
        says(SEEN_OPEN, "there is no limit of 60 letters there: 66, and 180", () -> {
            due("uvwxyz" + SIXTY, seen(with(SIXTY, "0+0uvwxyz"), 0));
            due(180, longest().editor(3, 6));
            due(25, longest().seen(3, 6 + 19 * 7 - 1));
            due(7, longest().seen(3, 179));
            due(NO_SUCH, longest().seen(3, 180));
        });
    }

    /** The ink 3 puts six letters in at each of the gaps 0 to 19 of 60 letters. */
    static FiveInks longest() {
        FiveInks x = with(SIXTY);
        for (int gap = 0; gap < 20; gap++) {
            due(1, mark(x, "3+" + gap + "uvwxyz"));
        }
        return x;
    }

    // ---- Shipping

    private static void shipping() {
        String becomes = "When the text is shipped, the print becomes the text, and a version";
        says(becomes, "an empty one", () -> {
            FiveInks x = shipped(accepting(with("abc", "0-0:3"), 0));
            due("", text(x));
            due(0, x.version(0, NONE));
            due(1, x.count(7));
        });
        says(becomes, "one of 60 letters", () -> {
            FiveInks x = shipped(accepting(with(SIXTY.substring(1), "0+0z"), 0));
            due("z" + SIXTY.substring(1), text(x));
            due("z" + SIXTY.substring(1), version(x, 0));
        });
        says(becomes, "one without marks", () -> {
            FiveInks x = shipped(with("abc"));
            due("abc", text(x));
            due("abc", version(x, 0));
        });
        for (int times : new int[] {0, 1, 5, 6, 7, 12, 13}) {
            says(KEPT, times + " were shipped", () -> {
                FiveInks x = with("abcdefghijklmnop");
                for (int i = 0; i < times; i++) {
                    x.strike(0, 0, 1);
                    accepting(x, 0);
                    shipped(x);
                }
                int kept = Math.min(times, 6);
                due(kept, x.count(7));
                for (int back = 0; back < kept; back++) {
                    due("abcdefghijklmnop".substring(times - back), version(x, back));
                }
                due(NO_SUCH, x.version(kept, NONE));
            });
        }
        says(GO, "twenty accepted ones", () -> {
            FiveInks x = withTwentyMarks();
            due(20, x.judge());
            due(0, shipped(x).count(2));
        });
        says(GO, "twenty refused ones", () -> {
            FiveInks x = withTwentyMarks();
            for (int i = 0; i < 20; i++) {
                x.refuse(i);
            }
            due(0, shipped(x).count(2));
            due("abcdefghijklmnopqrst", text(x));
        });
        String clashing = "and open ones that clash with an accepted one";
        says(clashing, "by one letter, and by a gap", () -> {
            FiveInks x = accepting(with("abcdef", "0-2:4,1+5x"), 0, 1);
            due(4, mark(x, "2-1:3,3+3z,4+5y,2=4:6w"));
            due(0, shipped(x).count(2));
        });
        says(clashing, "those that only touch it stay", () -> {
            FiveInks x = accepting(with("abcdef", "0-2:4,1+5x"), 0, 1);
            due(5, mark(x, "2-1:2,3+4z,4+2y,2=4:5w,3-5:6"));
            due(5, shipped(x).count(2));
        });
        says(STAY, "twenty of them", () -> {
            FiveInks x = shipped(withTwentyMarks());
            due("00000000000000000000", states(x));
            due("aaabacadaeafagahaiajakalamanaoapaqarasat", seen(x, 0));
            due(19, x.of(19, 2));
        });
        says(STAY, "twenty strikes and replacements, behind letters that are put in", () -> {
            FiveInks x = with(SIXTY.substring(6), "4+0uvwxyz");
            for (int i = 0; i < 19; i++) {
                due(1, mark(x, "1" + (i % 2 == 0 ? "-" + i + ":" + (i + 1) : "=" + i + ":" + (i + 1) + "q")));
            }
            shipped(accepting(x, 0));
            due(19, x.count(2));
            due("1-6:7,1=7:8,1-8:9,1=9:10,1-10:11,1=11:12,1-12:13,1=13:14,1-14:15,1=15:16,1-16:17,1=17:18,1-18:19,"
                + "1=19:20,1-20:21,1=21:22,1-22:23,1=23:24,1-24:25", gaps(x));
            due(1, mark(x, "2-59:60"));
            shipped(x);
            due(20, x.count(2));
            due("1-6:7,1=7:8,1-8:9,1=9:10,1-10:11,1=11:12,1-12:13,1=13:14,1-14:15,1=15:16,1-16:17,1=17:18,1-18:19,"
                + "1=19:20,1-20:21,1=21:22,1-22:23,1=23:24,1-24:25,2-59:60", gaps(x));
        });
        says(STAY, "with their inks, kinds and letters, and open", () -> {
            FiveInks x = shipped(with("abcdef", "4-1:2,3+2uvwxyz,2=3:5pq"));
            due("4-1:2,3+2,2=3:5", gaps(x));
            due("000", states(x));
            due("abuvwxyzcdef", seen(x, 3));
            due("abcpqf", seen(x, 2));
        });
        says(MOVE_UP, "the first one goes", () -> due("1+1", gaps(shipped(accepting(with("abc", "0-0:1,1+2x"), 0)))));
        says(MOVE_UP, "the last one goes", () -> due("1+1", gaps(shipped(accepting(with("abc", "1+1x,0-2:3"), 1)))));
        says(MOVE_UP, "19 of 20 go", () -> {
            FiveInks x = withTwentyMarks();
            for (int i = 0; i < 19; i++) {
                x.refuse(i);
            }
            due("0+19", gaps(shipped(x)));
            due("abcdefghijklmnopqrsat", seen(x, 0));
            due(NO_SUCH, x.of(1, 0));
        });
    }

    /** Where a mark comes to when the other ones are accepted, and the text is shipped. */
    private static void carried(String want, String mark, String... accepted) {
        FiveInks x = with("abcdefgh", mark);
        for (String one : accepted) {
            due(1, mark(x, one));
            accepting(x, x.count(2) - 1);
        }
        due(want, gaps(shipped(x)));
        FiveInks last = with("abcdefgh");
        for (String one : accepted) {
            due(1, mark(last, one));
        }
        due(1, mark(last, mark));
        for (int i = 0; i < accepted.length; i++) {
            accepting(last, i);
        }
        due(want, gaps(shipped(last)));
    }

    private static void carriedOver() {
        says(GAP_B, "nothing is accepted: the first gap, and the last one", () -> {
            carried("1+0", "1+0x");
            carried("1+8", "1+8x");
            carried("1-0:8", "1-0:8");
            carried("1=0:8", "1=0:8x");
        });
        says(GAP_B, "a strike that ends at it, or one gap ahead", () -> {
            carried("1+1", "1+4x", "0-1:4");
            carried("1+2", "1+4x", "0-1:3");
            carried("1-1:2", "1-4:5", "0-1:4");
        });
        says(GAP_B, "a strike that begins at it, or behind", () -> {
            carried("1+4", "1+4x", "0-4:6");
            carried("1+4", "1+4x", "0-5:6");
            carried("1-3:4", "1-3:4", "0-4:6");
            carried("1+0", "1+0x", "0-0:8");
        });
        says(GAP_B, "a replacement that ends at it, or begins at it", () -> {
            carried("1+7", "1+4x", "0=1:4uvwxyz");
            carried("1+2", "1+4x", "0=1:4u");
            carried("1+4", "1+4x", "0=4:6uvwxyz");
            carried("1-3:4", "1-3:4", "0=4:6uvwxyz");
        });
        says(GAP_B, "put in one gap ahead, or one behind", () -> {
            carried("1+6", "1+4x", "0+3yz");
            carried("1+4", "1+4x", "0+5yz");
        });
        says(GAP_B, "all of them together, and everything struck out", () -> {
            carried("1+5", "1+4x", "0+0pq", "0-0:2", "0=2:4z", "0+2rs", "0-4:8");
            carried("1+0", "1+8x", "0-0:8");
        });
        says("of what is put in at this gap itself by the kind 1, nothing counts", "the gap b of a strike, of a replacement", () -> {
            carried("1-2:4", "1-2:4", "0+4xyz");
            carried("1=2:4", "1=2:4w", "0+4xyz");
            carried("1-0:8", "1-0:8", "0+8xyz");
        });
        says("of what is put in at this gap itself by the kind 1, nothing counts", "but what is replaced up to it does", () ->
            carried("1-5:6", "1-2:3", "0=0:2uvwxy", "0+3z", "0-3:4"));
        says(GAP_A, "at the gap a, one ahead, one behind", () -> {
            carried("1-5:7", "1-2:4", "0+2xyz");
            carried("1=5:7", "1=2:4w", "0+2xyz");
            carried("1-5:7", "1-2:4", "0+1xyz");
            carried("1-3:11", "1-0:8", "0+0xyz");
        });
        says(GAP_A, "at both gaps", () -> carried("1=4:6", "1=2:4w", "0+2xy", "0+4z"));
        says(GAP_A, "ahead of it as with the gap b", () -> {
            carried("1-0:1", "1-2:3", "0-0:2");
            carried("1-1:2", "1-2:3", "0=0:2z");
            carried("1-2:3", "1-2:3", "0-3:8");
            carried("1=6:7", "1=2:3v", "0=1:2uvwxy");
        });
    }

    private static void putInTwice() {
        says(TWICE, "two", () -> {
            FiveInks x = shipped(accepting(with("abcd", "1+1x,1+3y,0-1:3"), 2));
            due("1+1", gaps(x));
            due("axd", seen(x, 1));
        });
        says(TWICE, "the later mark goes, not the one at the later gap", () -> {
            FiveInks x = shipped(accepting(with("abcd", "1+3y,1+1x,0-1:3"), 2));
            due("1+1", gaps(x));
            due("ayd", seen(x, 1));
        });
        says(TWICE, "of three, two go", () -> {
            FiveInks x = shipped(accepting(with("abcd", "1+0x,1+2y,1+4z,0-0:2,2-2:4"), 3, 4));
            due("1+0", gaps(x));
            due("x", seen(x, 1));
        });
        says(TWICE, "marks of unlike inks stay", () -> {
            FiveInks x = shipped(accepting(with("abcd", "1+1x,2+3y,0-1:3"), 2));
            due("1+1,2+1", gaps(x));
            due(2, x.clash(0, 1));
        });
        says(TWICE, "one letter between them is enough to stay", () -> {
            FiveInks x = shipped(accepting(with("abcd", "1+1x,1+3y,0-1:2"), 2));
            due("1+1,1+2", gaps(x));
        });
        says(TWICE, "a mark of another kind stays", () -> {
            due("1+1,1-1:2", gaps(shipped(accepting(with("abcd", "1+1x,1-3:4,0-1:3"), 2))));
            due("1-0:1,1+1", gaps(shipped(accepting(with("abcd", "1-0:1,1+3x,0-1:3"), 2))));
            due("1=1:2,1+1", gaps(shipped(accepting(with("abcd", "1=3:4z,1+1x,0-1:3"), 2))));
        });
        says(TWICE, "a refused one at the same gap does not make another one go", () -> {
            FiveInks x = with("abcd", "1+1x");
            x.refuse(0);
            due(1, mark(x, "1+1y"));
            due("1+1", gaps(shipped(x)));
            due("aybcd", seen(x, 1));
        });
        says(TWICE, "one that goes itself does not make another one go", () -> {
            FiveInks x = with("abcdef", "1+3x", "1+5y", "2+1z");
            x.strike(0, 1, 5);
            x.refuse(0);
            accepting(x, 3);
            due("1+1,2+1", gaps(shipped(x)));
            x = accepting(with("abcdef", "0-1:5"), 0);
            due(2, mark(x, "1+3x,1+5y"));
            due("1+1", gaps(shipped(x)));
            due("ayf", seen(x, 1));
        });
    }
}
