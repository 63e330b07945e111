/** The sentences of the promises 21 to 26: the pad, undo, saving. */
final class PadSentences extends Sentences {
    private static final String BAD_CODES = "BAD_VALUE if there is no character, a code is not 33 to 126, or a bit above 8 bits"
        + " that are 0 is not 0";
    private static final String HISTORY = "A history of at most 6 states is kept";
    private static final String RECORDS = "each method that is a change, and returns no error, records the state before it"
        + " (also if nothing is different then)";
    private static final String SAVES = "Saves everything except the pad, the history and the slots in a slot";
    private static final String RESTORES = "Restores what was saved last in a slot, which keeps it";

    private PadSentences() {
    }

    static void all() {
        put();
        badCodes();
        wipe();
        fault();
        undo();
        history();
        save();
        restore();
    }

    private static void put() {
        section("Promise 21: put");
        says("Appends characters to the pad", "to an empty one, and behind others", () -> {
            FiveInks x = new FiveInks();
            due(2, x.put(packed("ab")));
            due(3, x.put(packed("c")));
            due(11, x.put(packed("defghijk")));
            x.begin();
            due("abcdefghijk", text(x));
        });
        String order = "its lowest 8 bits are the last character, the next 8 bits the one before, and so on";
        says(order, "two, and eight characters", () -> {
            FiveInks x = new FiveInks();
            x.put('a' << 8 | 'b');
            x.begin();
            due("ab", text(x));
            x.put(0x6162636465666768L);
            x.begin();
            due("abcdefgh", text(x));
        });
        says("8 bits that are 0 mean that there are no more characters", "behind 1 to 7 of them", () -> {
            for (int n = 1; n <= 8; n++) {
                FiveInks x = new FiveInks();
                due(n, x.put(packed("abcdefgh".substring(0, n))));
                due(n, x.begin());
                due("abcdefgh".substring(0, n), text(x));
            }
        });
        says("1 to 8 characters", "1, 8 and none", () -> {
            due(1, new FiveInks().put('a'));
            due(8, new FiveInks().put(packed("abcdefgh")));
            due(BAD_VALUE, new FiveInks().put(0));
        });
        says("Returns the length of the pad then", "1, 8, 9 and 60", () -> {
            FiveInks x = new FiveInks();
            due(1, x.put('a'));
            due(9, x.put(packed("abcdefgh")));
            pad(x, SIXTY.substring(10));
            due(59, x.count(8));
            due(60, x.put('~'));
        });
        String tooMany = "TOO_MANY if the pad would be longer than 60";
        for (int n = 1; n <= 8; n++) {
            int added = n;
            says(tooMany, n + " more, to 60 and to 61", () -> {
                FiveInks x = new FiveInks();
                pad(x, SIXTY.substring(added));
                due(60, x.put(packed("zzzzzzzz".substring(0, added))));
                due(60, x.begin());
                pad(x, SIXTY.substring(added - 1));
                due(TOO_MANY, x.put(packed("zzzzzzzz".substring(0, added))));
                due(61 - added, x.begin());
            });
        }
        says(tooMany, "a full pad", () -> {
            FiveInks x = new FiveInks();
            pad(x, SIXTY);
            due(TOO_MANY, x.put('a'));
            due(TOO_MANY, x.put(packed("abcdefgh")));
            due(60, x.wipe());
            due(8, x.put(packed("abcdefgh")));
        });
    }

    private static void badCodes() {
        says(BAD_CODES, "no character", () -> due(BAD_VALUE, new FiveInks().put(0)));
        for (int n = 0; n < 8; n++) {
            int place = n;
            says(BAD_CODES, "each code, " + n + " characters behind it", () -> {
                for (long code = 1; code <= 255; code++) {
                    FiveInks x = new FiveInks();
                    long around = packed("!".repeat(8)) & ~(255L << 8 * place);
                    due(code >= 33 && code <= 126 ? 8 : BAD_VALUE, x.put(around | code << 8 * place));
                    due(code >= 33 && code <= 126 ? place + 1 : BAD_VALUE,
                        new FiveInks().put(around & (1L << 8 * place) - 1 | code << 8 * place));
                }
            });
        }
        for (int n = 1; n < 8; n++) {
            int ended = n;
            says(BAD_CODES, "a bit above 8 bits that are 0, behind " + n + " characters", () -> {
                long characters = packed("abcdefgh".substring(0, ended));
                due(ended, new FiveInks().put(characters));
                for (int bit = 8 * ended + 8; bit < 64; bit++) {
                    due(BAD_VALUE, new FiveInks().put(characters | 1L << bit));
                }
                due(BAD_VALUE, new FiveInks().put(characters << 8 * (8 - ended)));
            });
        }
        says(BAD_CODES, "each single bit but the lowest 8", () -> {
            for (int bit = 8; bit < 64; bit++) {
                due(BAD_VALUE, new FiveInks().put(1L << bit));
            }
        });
        says(BAD_CODES, "the least and the greatest number", () -> {
            due(BAD_VALUE, new FiveInks().put(-1));
            due(BAD_VALUE, new FiveInks().put(Long.MIN_VALUE));
            due(BAD_VALUE, new FiveInks().put(Long.MAX_VALUE));
        });
    }

    private static void wipe() {
        section("Promise 22: wipe");
        says("Empties the pad", "of 60 characters, and of none", () -> {
            FiveInks x = new FiveInks();
            pad(x, SIXTY);
            x.wipe();
            due(0, x.count(8));
            due(0, x.begin());
            due(0, x.count(0));
        });
        says("and returns the length that it had", "0, 1, 60, and 0 again", () -> {
            FiveInks x = new FiveInks();
            due(0, x.wipe());
            x.put('a');
            due(1, x.wipe());
            pad(x, SIXTY);
            due(60, x.wipe());
            due(0, x.wipe());
        });
    }

    private static void fault() {
        section("Promise 23: fault");
        says("Returns the fault of the pad as marks", "at 0, at 59 and at 60", () -> {
            due(0, TermsSentences.faultOf(""));
            due(0, TermsSentences.faultOf(SIXTY));
            due(60, TermsSentences.faultOf("0+0abcdef,0+1abcdef,0+2abcdef,0+3abcdef,0+4abcdef,0+5abcdef,"));
            due(59, TermsSentences.faultOf("0+0abcdef,0+1abcdef,0+2abcdef,0+3abcdef,0+4abcdef,0+5abcdef!"));
        });
        says("NONE if there is none", "4 characters, and 60", () -> {
            due(NONE, TermsSentences.faultOf("0+0a"));
            due(NONE, TermsSentences.faultOf("0+0abcdef,0+1abcdef,0+2abcdef,0+3abcdef,0+4abcdef,0+50abcde"));
        });
        says("Returns the fault of the pad as marks", "it is the same when asked again, and of another pad another one", () -> {
            FiveInks x = new FiveInks();
            pad(x, "0-0:1,x");
            due(6, x.fault());
            due(6, x.fault());
            x.wipe();
            due(0, x.fault());
            pad(x, "0-0");
            due(3, x.fault());
            pad(x, ":1");
            due(NONE, x.fault());
        });
    }

    private static void undo() {
        section("Promise 24: undo");
        String undoes = "Undoes the latest change: everything except the pad, the slots and the history is as it was before it";
        says(undoes, "text, marks, ranks and versions", () -> {
            FiveInks x = rich();
            x.begin();
            due("", text(x));
            x.undo();
            due(portrait(PadSentences::rich), portrait(() -> {
                FiveInks again = rich();
                again.begin();
                again.undo();
                return again;
            }));
        });
        says(undoes, "twenty marks of six letters each", () -> due(portrait(MarksSentences::longest), portrait(() -> {
            FiveInks x = MarksSentences.longest();
            begin(x, SIXTY);
            othersThanLongest(x);
            for (int i = 0; i < 5; i++) {
                due(true, x.undo() >= 0);
            }
            return x;
        })));
        says(undoes, "the pad stays", () -> {
            FiveInks x = with("abc");
            pad(x, "0-0:1");
            due(1, x.mark());
            pad(x, "xyz");
            x.undo();
            due(3, x.count(8));
            due(0, x.count(2));
            due(3, x.begin());
            due("xyz", text(x));
        });
        says(undoes, "the pad that a change has emptied stays empty", () -> {
            FiveInks x = with("abc", "0-0:1");
            x.undo();
            due(0, x.count(8));
            x.undo();
            due(0, x.count(8));
        });
        says(undoes, "the slots stay", () -> {
            FiveInks x = with("abc", "0-0:1");
            x.save(0);
            x.undo();
            x.undo();
            due(0, x.count(0));
            due(1, x.restore(0));
            due("abc", text(x));
        });
        says(undoes, "only the latest one, and then the one before", () -> {
            FiveInks x = new FiveInks();
            x.rank(0, 5);
            x.rank(0, 6);
            x.undo();
            due(5, x.editor(0, 0));
            x.undo();
            due(0, x.editor(0, 0));
        });
        says("Returns how many changes can be undone then", "5 to 0", () -> {
            FiveInks x = new FiveInks();
            for (int i = 0; i < 6; i++) {
                x.judge();
            }
            for (int left = 5; left >= 0; left--) {
                due(left, x.undo());
            }
        });
        says("NOT_POSSIBLE if there is none", "a new object", () -> due(NOT_POSSIBLE, new FiveInks().undo()));
        says("NOT_POSSIBLE if there is none", "behind as many as there were: 1, 6, and 6 of 7", () -> {
            for (int changes : new int[] {1, 6, 7}) {
                FiveInks x = new FiveInks();
                for (int i = 0; i < changes; i++) {
                    x.judge();
                }
                for (int i = 0; i < Math.min(changes, 6); i++) {
                    due(true, x.undo() >= 0);
                }
                due(NOT_POSSIBLE, x.undo());
                due(NOT_POSSIBLE, x.undo());
                due(0, x.count(9));
            }
        });
        says("A mark of a text records nothing by itself", "three marks of one text", () -> {
            FiveInks x = with("abc", "0-0:1,1-1:2,2-2:3");
            due(2, x.count(9));
            due(1, x.undo());
            due(0, x.count(2));
        });
    }

    /** Twenty marks of other inks, kinds and letters, in four changes. */
    private static void othersThanLongest(FiveInks x) {
        for (int i = 0; i < 4; i++) {
            int at = 5 * i;
            due(5, mark(x, "4=" + at + ":" + (at + 1) + "abcdef,4=" + (at + 1) + ":" + (at + 2) + "ghijkl,0+" + at + "m,0+"
                + (at + 1) + "n,0+" + (at + 2) + "o"));
        }
    }

    /** A state in which there is something of everything. */
    static FiveInks rich() {
        FiveInks x = shipped(with("abcdefghijkl"));
        x.rank(1, 8);
        due(5, mark(x, "0-0:3,1-2:4,2+6xy,3=8:10pqr,4-9:12"));
        x.save(0);
        due(1, x.accept(0));
        due(5, x.strike(1, 1, 3));
        x.save(1);
        due("120000", states(x));
        return x;
    }

    private static void history() {
        for (int number : new int[] {5, 6, 7, 8, 12, 13}) {
            says(HISTORY, number + " changes: what comes back", () -> {
                FiveInks x = new FiveInks();
                for (int i = 1; i <= number; i++) {
                    x.rank(0, i % 10);
                }
                int kept = Math.min(number, 6);
                due(kept, x.count(9));
                for (int left = kept - 1; left >= 0; left--) {
                    due(left, x.undo());
                    due((number - kept + left) % 10, x.editor(0, 0));
                }
                due(NOT_POSSIBLE, x.undo());
            });
        }
        says("when one more is recorded, the oldest one is dropped", "the state before the first of seven is gone", () -> {
            FiveInks x = with("abc");
            for (int i = 0; i < 6; i++) {
                x.rank(0, 9);
            }
            for (int i = 0; i < 6; i++) {
                x.undo();
            }
            due(NOT_POSSIBLE, x.undo());
            due("abc", text(x));
        });
        says("when one more is recorded, the oldest one is dropped", "behind undo there is room again", () -> {
            FiveInks x = new FiveInks();
            for (int i = 1; i <= 6; i++) {
                x.rank(0, i);
            }
            due(5, x.undo());
            due(4, x.undo());
            x.rank(0, 7);
            due(5, x.count(9));
            x.rank(0, 8);
            x.rank(0, 9);
            due(6, x.count(9));
            StringBuilder ranks = new StringBuilder();
            for (int i = 0; i < 6; i++) {
                x.undo();
                ranks.append(x.editor(0, 0));
            }
            due("874321", ranks.toString());
        });
        says(RECORDS, "each of the ten methods, one after the other", () -> {
            FiveInks x = new FiveInks();
            pad(x, "abcdef");
            due(0, x.save(0));
            Call[] changes = {FiveInks::begin, o -> o.rank(0, 0), o -> o.strike(0, 0, 1), o -> o.strike(1, 1, 2), o -> o.refuse(1),
                o -> o.accept(0)};
            for (int i = 0; i < 6; i++) {
                due(true, changes[i].on(x) >= 0);
                due(i + 1, x.count(9));
            }
            x.undo();
            x.undo();
            x.undo();
            x.undo();
            pad(x, "2+0x");
            Call[] others = {FiveInks::mark, FiveInks::judge, o -> o.wash(0), FiveInks::ship};
            for (int i = 0; i < 4; i++) {
                due(true, others[i].on(x) >= 0);
                due(i + 3, x.count(9));
            }
            x.undo();
            due(0, x.restore(0));
            due(6, x.count(9));
        });
        says(RECORDS, "nothing is different: each of the six states comes back", () -> {
            FiveInks x = with("abc");
            x.judge();
            x.judge();
            x.rank(2, 2);
            x.save(0);
            x.restore(0);
            pad(x, "0+9z");
            due(0, x.mark());
            due(6, x.count(9));
            for (int left = 5; left >= 1; left--) {
                due(left, x.undo());
                due("abc", text(x));
            }
            due(0, x.undo());
            due("", text(x));
        });
        says("each method that is a change", "the others record nothing", () -> {
            FiveInks x = with("abc", "0-0:1");
            x.put('a');
            x.fault();
            x.wipe();
            x.save(0);
            x.save(1);
            x.ifJudged(5);
            x.ifAccepted(0, 1);
            x.seen(0, 0);
            due(2, x.count(9));
            x.undo();
            due(1, x.count(9));
        });
    }

    private static void save() {
        section("Promise 25: save");
        says(SAVES, "text, marks, ranks and versions", () -> due(portrait(PadSentences::rich), portrait(() -> {
            FiveInks x = rich();
            x.save(0);
            begin(x, "zzz");
            x.rank(0, 9);
            x.ship();
            x.restore(0);
            return x;
        })));
        says(SAVES, "six versions and twenty marks", () -> {
            Recipe full = () -> {
                FiveInks x = withTwentyMarks();
                for (int i = 0; i < 8; i++) {
                    shipped(x);
                }
                return x;
            };
            due(portrait(full), portrait(() -> {
                FiveInks x = full.make();
                due(20, x.save(1));
                begin(x, "zzz");
                for (int i = 0; i < 7; i++) {
                    shipped(x);
                }
                due(20, x.restore(1));
                return x;
            }));
        });
        for (int number = 0; number <= 1; number++) {
            int slot = number;
            says(SAVES, "twenty marks of six letters each, slot " + slot, () -> due(portrait(MarksSentences::longest),
                portrait(() -> {
                    FiveInks x = MarksSentences.longest();
                    due(20, x.save(slot));
                    begin(x, SIXTY);
                    othersThanLongest(x);
                    due(20, x.restore(slot));
                    return x;
                })));
        }
        says(SAVES, "not the pad, which stays as it is", () -> {
            FiveInks x = with("abc");
            pad(x, "ab");
            x.save(0);
            x.put('c');
            x.restore(0);
            due(3, x.count(8));
            x.wipe();
            x.restore(0);
            due(0, x.count(8));
        });
        says(SAVES, "not the history, which goes on", () -> {
            FiveInks x = with("abc");
            x.rank(0, 9);
            x.save(0);
            x.rank(0, 8);
            x.restore(0);
            due(4, x.count(9));
            x.undo();
            due(8, x.editor(0, 0));
            x.undo();
            due(9, x.editor(0, 0));
        });
        says(SAVES, "not the slots: the other one keeps what it has", () -> {
            FiveInks x = with("abc");
            x.save(0);
            begin(x, "xy");
            x.save(1);
            x.restore(0);
            due("abc", text(x));
            x.restore(1);
            due("xy", text(x));
        });
        says(SAVES, "what is changed later is not changed in the slot", () -> {
            FiveInks x = with("abc", "0-0:1,1+1x");
            x.save(0);
            x.accept(0);
            x.rank(4, 9);
            x.ship();
            x.restore(0);
            due("00", states(x));
            due(4, x.editor(4, 0));
            due(0, x.count(6));
            due("abc", text(x));
        });
        says("and overwrites what was saved there", "twice, in each slot", () -> {
            for (int slot = 0; slot <= 1; slot++) {
                FiveInks x = with("abc", "0-0:1,1+1x");
                due(2, x.save(slot));
                begin(x, "xy");
                due(0, x.save(slot));
                begin(x, "q");
                due(0, x.restore(slot));
                due("xy", text(x));
                due(0, x.count(2));
            }
        });
        says("slot: 0 or 1", "both", () -> {
            due(0, new FiveInks().save(0));
            due(0, new FiveInks().save(1));
        });
        says("Returns how many marks there are", "0 and 20", () -> {
            due(0, with("abc").save(0));
            due(20, withTwentyMarks().save(0));
        });
        says("BAD_VALUE if there is no such slot", "-1 and 2, and far off", () -> {
            FiveInks x = with("abc");
            for (int slot : new int[] {-1, 2, Integer.MIN_VALUE, Integer.MAX_VALUE}) {
                due(BAD_VALUE, x.save(slot));
            }
            due(NOT_POSSIBLE, x.restore(0));
            due(NOT_POSSIBLE, x.restore(1));
        });
    }

    private static void restore() {
        section("Promise 26: restore");
        says(RESTORES, "from each slot, more than once", () -> {
            for (int slot = 0; slot <= 1; slot++) {
                FiveInks x = with("abc", "0-0:1");
                x.save(slot);
                for (int i = 0; i < 3; i++) {
                    accepting(x, 0);
                    shipped(x);
                    due("bc", text(x));
                    due(1, x.restore(slot));
                    due("abc", text(x));
                    due("0", states(x));
                }
            }
        });
        says("slot: 0 or 1", "both", () -> {
            FiveInks x = new FiveInks();
            x.save(0);
            x.save(1);
            due(0, x.restore(0));
            due(0, x.restore(1));
        });
        says(RESTORES, "what was saved last", () -> {
            FiveInks x = with("abc");
            x.save(0);
            x.rank(0, 7);
            x.save(0);
            x.rank(0, 1);
            x.restore(0);
            due(7, x.editor(0, 0));
        });
        says(RESTORES, "also behind begin, and behind undo", () -> {
            FiveInks x = with("abc", "0-0:1");
            x.save(1);
            begin(x, "xyz");
            due(1, x.restore(1));
            x.undo();
            due("xyz", text(x));
            due(1, x.restore(1));
            due("abc", text(x));
        });
        ChangesSentences.aChange("This is a change.", "another state", () -> {
            FiveInks x = rich();
            begin(x, "xyz");
            return x;
        }, x -> x.restore(0));
        ChangesSentences.aChange("This is a change.", "the same state", () -> {
            FiveInks x = with("abc", "0-0:1");
            x.save(0);
            return x;
        }, x -> x.restore(0));
        says("Returns how many marks there are then", "0 and 20", () -> {
            FiveInks x = withTwentyMarks();
            x.save(0);
            x.begin();
            x.save(1);
            due(20, x.restore(0));
            due(0, x.restore(1));
        });
        says("BAD_VALUE if there is no such slot", "-1 and 2, and far off", () -> {
            FiveInks x = with("abc");
            x.save(0);
            x.save(1);
            for (int slot : new int[] {-1, 2, Integer.MIN_VALUE, Integer.MAX_VALUE}) {
                due(BAD_VALUE, x.restore(slot));
            }
        });
        says("NOT_POSSIBLE if nothing was saved in it", "none of the two, and then the other one", () -> {
            FiveInks x = with("abc");
            due(NOT_POSSIBLE, x.restore(0));
            due(NOT_POSSIBLE, x.restore(1));
            x.save(1);
            due(NOT_POSSIBLE, x.restore(0));
            due(0, x.restore(1));
            x = with("abc");
            x.save(0);
            due(NOT_POSSIBLE, x.restore(1));
            due(0, x.restore(0));
        });
    }
}
