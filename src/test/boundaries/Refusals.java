/** Refused calls: which error each of them returns, in which order errors are checked, and that nothing changes. */
final class Refusals extends Sentences {
    private static final int LEAST = Integer.MIN_VALUE, MOST = Integer.MAX_VALUE;

    private Refusals() {
    }

    static void all() {
        refusedChanges();
        refusedMarks();
        refusedQuestions();
        refusedPadsAndSlots();
        order();
        orderOfQuestions();
        nothingChanges();
        anyArguments();
    }

    // ---- states in which calls are refused

    /** Something of everything, and marks on the pad. */
    private static FiveInks rich() {
        FiveInks x = PadSentences.rich();
        pad(x, "0-4:5,3+12z");
        return x;
    }

    /** The same, with a pad that is a text, but not of marks. */
    private static FiveInks richWithLetters() {
        FiveInks x = PadSentences.rich();
        pad(x, "qrs");
        return x;
    }

    private static FiveInks full() {
        FiveInks x = accepting(withTwentyMarks(), 3);
        x.refuse(4);
        pad(x, SIXTY);
        return x;
    }

    private static FiveInks sixty() {
        return accepting(ChangesSentences.printOfSixty(), 2, 1);
    }

    /** The print has sixty letters, and one more mark would put a letter in. */
    private static FiveInks sixtyAndOne() {
        FiveInks x = sixty();
        due(1, mark(x, "4+50z"));
        return x;
    }

    private static FiveInks unsaved() {
        FiveInks x = with("abc", "0-0:1,1-1:2");
        pad(x, "xyz");
        return x;
    }

    /** Nothing can be undone, but there is something in the slots and on the pad. */
    private static FiveInks withoutHistory() {
        FiveInks x = with("abc");
        x.save(1);
        x.undo();
        pad(x, "xyz");
        return x;
    }

    // ---- what is refused

    private static void refused(String words, String boundary, int error, Recipe before, Call call) {
        says(words, boundary + ": refused", () -> due(error, call.on(before.make())));
        String promise = section("Terms");
        says("A call that returns an error changes nothing", promise + ", " + words + ", " + boundary, () ->
            due(wholePortrait(before), wholePortrait(() -> {
                FiveInks x = before.make();
                call.on(x);
                return x;
            })));
        section(promise);
    }

    private static void refusedChanges() {
        section("Promise 2: begin");
        refused("BAD_TEXT if the pad has anything but letters", "marks", BAD_TEXT, Refusals::rich, FiveInks::begin);
        section("Promise 3: rank");
        refused("NO_SUCH if there is no such editor", "-1", NO_SUCH, Refusals::rich, x -> x.rank(-1, 0));
        refused("NO_SUCH if there is no such editor", "5", NO_SUCH, Refusals::rich, x -> x.rank(5, 0));
        refused("BAD_VALUE if rank is out of range", "-1", BAD_VALUE, Refusals::rich, x -> x.rank(0, -1));
        refused("BAD_VALUE if rank is out of range", "10", BAD_VALUE, Refusals::rich, x -> x.rank(0, 10));
        section("Promise 4: mark");
        refused("BAD_TEXT if the pad has a fault (then it stays)", "letters", BAD_TEXT, Refusals::richWithLetters, FiveInks::mark);
        refused("BAD_TEXT if the pad has a fault (then it stays)", "an empty pad", BAD_TEXT, PadSentences::rich, FiveInks::mark);
        section("Promise 5: strike");
        String noSuch = "NO_SUCH if there is no such editor or gap";
        refused(noSuch, "the editor -1", NO_SUCH, Refusals::rich, x -> x.strike(-1, 5, 6));
        refused(noSuch, "the editor 5", NO_SUCH, Refusals::rich, x -> x.strike(5, 5, 6));
        refused(noSuch, "a is -1", NO_SUCH, Refusals::rich, x -> x.strike(0, -1, 6));
        refused(noSuch, "a is 13", NO_SUCH, Refusals::rich, x -> x.strike(0, 13, 6));
        refused(noSuch, "b is -1", NO_SUCH, Refusals::rich, x -> x.strike(0, 5, -1));
        refused(noSuch, "b is 13", NO_SUCH, Refusals::rich, x -> x.strike(0, 5, 13));
        refused("BAD_VALUE if b is not greater than a", "the same", BAD_VALUE, Refusals::rich, x -> x.strike(0, 5, 5));
        refused("BAD_VALUE if b is not greater than a", "less", BAD_VALUE, Refusals::rich, x -> x.strike(0, 5, 4));
        refused("TOO_MANY if there are 20 marks", "20", TOO_MANY, Refusals::full, x -> x.strike(1, 0, 1));
        String ownInk = "NOT_POSSIBLE if it clashes with a mark of the same ink that is not refused";
        refused(ownInk, "an accepted one", NOT_POSSIBLE, Refusals::rich, x -> x.strike(0, 2, 5));
        refused(ownInk, "an open one", NOT_POSSIBLE, Refusals::rich, x -> x.strike(4, 8, 10));
    }

    private static void refusedMarks() {
        section("Promise 6: accept");
        refused("NO_SUCH if there is no such mark", "-1", NO_SUCH, Refusals::rich, x -> x.accept(-1));
        refused("NO_SUCH if there is no such mark", "6 of 6", NO_SUCH, Refusals::rich, x -> x.accept(6));
        refused("NO_SUCH if there is no such mark", "20 of 20", NO_SUCH, Refusals::full, x -> x.accept(20));
        refused("NOT_POSSIBLE if it is not open", "accepted", NOT_POSSIBLE, Refusals::rich, x -> x.accept(0));
        refused("NOT_POSSIBLE if it is not open", "refused", NOT_POSSIBLE, Refusals::rich, x -> x.accept(1));
        refused("an accepted one clashes with it", "one does", NOT_POSSIBLE, Refusals::rich, x -> x.accept(5));
        refused("or the print would have more than 60 letters", "61", NOT_POSSIBLE, Refusals::sixtyAndOne, x -> x.accept(4));
        section("Promise 7: refuse");
        refused("NO_SUCH if there is no such mark", "-1", NO_SUCH, Refusals::rich, x -> x.refuse(-1));
        refused("NO_SUCH if there is no such mark", "6 of 6", NO_SUCH, Refusals::rich, x -> x.refuse(6));
        refused("NO_SUCH if there is no such mark", "20 of 20", NO_SUCH, Refusals::full, x -> x.refuse(20));
        refused("NOT_POSSIBLE if it is not open", "accepted", NOT_POSSIBLE, Refusals::rich, x -> x.refuse(0));
        refused("NOT_POSSIBLE if it is not open", "refused", NOT_POSSIBLE, Refusals::rich, x -> x.refuse(1));
        section("Promise 8: wash");
        refused("NO_SUCH if there is no such mark", "-1", NO_SUCH, Refusals::rich, x -> x.wash(-1));
        refused("NO_SUCH if there is no such mark", "6 of 6", NO_SUCH, Refusals::rich, x -> x.wash(6));
        refused("NO_SUCH if there is no such mark", "20 of 20", NO_SUCH, Refusals::full, x -> x.wash(20));
        refused("NOT_POSSIBLE if the print would have more than 60 letters without it", "61", NOT_POSSIBLE, Refusals::sixty,
            x -> x.wash(2));
    }

    private static void refusedQuestions() {
        section("Promise 11: letter");
        refused("BAD_VALUE if of is neither", "-1", BAD_VALUE, Refusals::rich, x -> x.letter(-1, 0));
        refused("BAD_VALUE if of is neither", "2", BAD_VALUE, Refusals::rich, x -> x.letter(2, 0));
        refused("NO_SUCH if there is no such place", "-1", NO_SUCH, Refusals::rich, x -> x.letter(0, -1));
        refused("NO_SUCH if there is no such place", "behind the text", NO_SUCH, Refusals::rich, x -> x.letter(0, 12));
        refused("NO_SUCH if there is no such place", "behind the print", NO_SUCH, Refusals::rich, x -> x.letter(1, 9));
        section("Promise 12: seen");
        refused("NO_SUCH if there is no such editor or place", "the editor -1", NO_SUCH, Refusals::rich, x -> x.seen(-1, 0));
        refused("NO_SUCH if there is no such editor or place", "the editor 5", NO_SUCH, Refusals::rich, x -> x.seen(5, 0));
        refused("NO_SUCH if there is no such editor or place", "the place -1", NO_SUCH, Refusals::rich, x -> x.seen(3, -1));
        refused("NO_SUCH if there is no such editor or place", "behind", NO_SUCH, Refusals::rich, x -> x.seen(3, 10));
        section("Promise 13: of");
        refused("NO_SUCH if there is no such mark", "-1", NO_SUCH, Refusals::rich, x -> x.of(-1, 0));
        refused("NO_SUCH if there is no such mark", "6 of 6", NO_SUCH, Refusals::rich, x -> x.of(6, 0));
        refused("BAD_VALUE if what is out of range", "-1", BAD_VALUE, Refusals::rich, x -> x.of(0, -1));
        refused("BAD_VALUE if what is out of range", "8", BAD_VALUE, Refusals::rich, x -> x.of(0, 8));
        section("Promise 14: clash");
        refused("NO_SUCH if there is no such mark", "6 and 0", NO_SUCH, Refusals::rich, x -> x.clash(6, 0));
        refused("NO_SUCH if there is no such mark", "0 and -1", NO_SUCH, Refusals::rich, x -> x.clash(0, -1));
        refused("BAD_VALUE if both are the same", "5 and 5", BAD_VALUE, Refusals::rich, x -> x.clash(5, 5));
        section("Promise 15: editor");
        refused("NO_SUCH if there is no such editor", "-1", NO_SUCH, Refusals::rich, x -> x.editor(-1, 6));
        refused("NO_SUCH if there is no such editor", "5", NO_SUCH, Refusals::rich, x -> x.editor(5, 6));
        refused("BAD_VALUE if what is out of range", "-1", BAD_VALUE, Refusals::rich, x -> x.editor(0, -1));
        refused("BAD_VALUE if what is out of range", "7", BAD_VALUE, Refusals::rich, x -> x.editor(0, 7));
        section("Promise 16: count");
        refused("BAD_VALUE if what is out of range", "-1", BAD_VALUE, Refusals::rich, x -> x.count(-1));
        refused("BAD_VALUE if what is out of range", "10", BAD_VALUE, Refusals::rich, x -> x.count(10));
        section("Promise 17: version");
        refused("NO_SUCH if there is no such version or place", "1 of 1", NO_SUCH, Refusals::rich, x -> x.version(1, NONE));
        refused("NO_SUCH if there is no such version or place", "-1 of 1", NO_SUCH, Refusals::rich, x -> x.version(-1, 0));
        refused("NO_SUCH if there is no such version or place", "a place", NO_SUCH, Refusals::rich, x -> x.version(0, 12));
        section("Promise 18: apart");
        refused("NO_SUCH if there is no such version", "1 of 1", NO_SUCH, Refusals::rich, x -> x.apart(1, 0));
        refused("NO_SUCH if there is no such version", "-1 of 1", NO_SUCH, Refusals::rich, x -> x.apart(0, -1));
        section("Promise 19: ifAccepted");
        refused("NO_SUCH if there is no such mark", "6 of 6", NO_SUCH, Refusals::rich, x -> x.ifAccepted(6, 0));
        refused("BAD_VALUE if what is neither 0 nor 1", "2", BAD_VALUE, Refusals::rich, x -> x.ifAccepted(2, 2));
        refused("NOT_POSSIBLE if it is not open", "accepted", NOT_POSSIBLE, Refusals::rich, x -> x.ifAccepted(0, 0));
        refused("NOT_POSSIBLE if it is not open", "refused", NOT_POSSIBLE, Refusals::rich, x -> x.ifAccepted(1, 1));
        refused("or an accepted one clashes with it", "one does", NOT_POSSIBLE, Refusals::rich, x -> x.ifAccepted(5, 0));
        section("Promise 20: ifJudged");
        refused("BAD_VALUE if what is out of range", "-1", BAD_VALUE, Refusals::rich, x -> x.ifJudged(-1));
        refused("BAD_VALUE if what is out of range", "6", BAD_VALUE, Refusals::rich, x -> x.ifJudged(6));
    }

    private static void refusedPadsAndSlots() {
        section("Promise 21: put");
        String badCode = "BAD_VALUE if there is no character, a code is not 33 to 126, or a bit above 8 bits that are 0 is not 0";
        refused(badCode, "no character", BAD_VALUE, Refusals::richWithLetters, x -> x.put(0));
        refused(badCode, "32 behind seven letters", BAD_VALUE, Refusals::richWithLetters, x -> x.put(packed("abcdefg ")));
        refused(badCode, "127 ahead of a letter", BAD_VALUE, Refusals::richWithLetters, x -> x.put(0x7f61));
        refused(badCode, "a bit above 8 that are 0", BAD_VALUE, Refusals::richWithLetters, x -> x.put(0x61006162));
        refused("TOO_MANY if the pad would be longer than 60", "61", TOO_MANY, Refusals::full, x -> x.put('a'));
        refused("TOO_MANY if the pad would be longer than 60", "61 by eight", TOO_MANY, () -> {
            FiveInks x = with("abc");
            pad(x, SIXTY.substring(7));
            return x;
        }, x -> x.put(packed("stuvwxyz")));
        section("Promise 24: undo");
        refused("NOT_POSSIBLE if there is none", "none", NOT_POSSIBLE, Refusals::withoutHistory, FiveInks::undo);
        refused("NOT_POSSIBLE if there is none", "a new object", NOT_POSSIBLE, FiveInks::new, FiveInks::undo);
        section("Promise 25: save");
        refused("BAD_VALUE if there is no such slot", "-1", BAD_VALUE, Refusals::rich, x -> x.save(-1));
        refused("BAD_VALUE if there is no such slot", "2", BAD_VALUE, Refusals::rich, x -> x.save(2));
        section("Promise 26: restore");
        refused("BAD_VALUE if there is no such slot", "-1", BAD_VALUE, Refusals::rich, x -> x.restore(-1));
        refused("BAD_VALUE if there is no such slot", "2", BAD_VALUE, Refusals::rich, x -> x.restore(2));
        refused("NOT_POSSIBLE if nothing was saved in it", "0", NOT_POSSIBLE, Refusals::unsaved, x -> x.restore(0));
        refused("NOT_POSSIBLE if nothing was saved in it", "1", NOT_POSSIBLE, Refusals::unsaved, x -> x.restore(1));
    }

    // ---- the order of errors

    /** Two errors apply or more; the first one that the document names is due. */
    private static void first(String boundary, int error, Recipe before, Call call) {
        section("Terms");
        says("it names its errors in the order in which they are checked, and the first one that applies is returned", boundary,
            () -> due(error, call.on(before.make())));
    }

    private static void order() {
        first("rank: no editor, rank out of range", NO_SUCH, Refusals::rich, x -> x.rank(5, 10));
        first("rank: no editor, rank out of range, both below", NO_SUCH, Refusals::rich, x -> x.rank(-1, -1));
        first("strike: no editor, b not greater", NO_SUCH, Refusals::rich, x -> x.strike(5, 6, 5));
        first("strike: no editor, 20 marks", NO_SUCH, Refusals::full, x -> x.strike(5, 0, 1));
        first("strike: no gap a, b not greater", NO_SUCH, Refusals::rich, x -> x.strike(0, 13, 5));
        first("strike: no gap b, b not greater", NO_SUCH, Refusals::rich, x -> x.strike(0, 5, -1));
        first("strike: no gaps, the same", NO_SUCH, Refusals::rich, x -> x.strike(0, 13, 13));
        first("strike: no gap b, 20 marks", NO_SUCH, Refusals::full, x -> x.strike(1, 0, 21));
        first("strike: no gap a, 20 marks", NO_SUCH, Refusals::full, x -> x.strike(1, -1, 2));
        first("strike: no gap b, a clash", NO_SUCH, Refusals::rich, x -> x.strike(0, 1, 13));
        first("strike: no gap a, a clash", NO_SUCH, Refusals::rich, x -> x.strike(0, -1, 3));
        first("strike: b the same, 20 marks", BAD_VALUE, Refusals::full, x -> x.strike(1, 2, 2));
        first("strike: b less, 20 marks", BAD_VALUE, Refusals::full, x -> x.strike(1, 2, 1));
        first("strike: b less, amid a mark of the same ink", BAD_VALUE, Refusals::rich, x -> x.strike(0, 2, 1));
        first("strike: b the same, amid a mark of the same ink", BAD_VALUE, Refusals::rich, x -> x.strike(4, 10, 10));
        first("strike: 20 marks, a clash", TOO_MANY, Refusals::full, x -> x.strike(0, 0, 2));
        first("strike: all but the editor", NO_SUCH, Refusals::full, x -> x.strike(0, 21, 0));
    }

    private static void orderOfQuestions() {
        first("letter: neither, no place", BAD_VALUE, Refusals::rich, x -> x.letter(2, 12));
        first("letter: neither, no place, both below", BAD_VALUE, Refusals::rich, x -> x.letter(-1, -1));
        first("of: no mark, out of range", NO_SUCH, Refusals::rich, x -> x.of(6, 8));
        first("of: no mark, out of range, both below", NO_SUCH, Refusals::rich, x -> x.of(-1, -1));
        first("clash: no mark, the same", NO_SUCH, Refusals::rich, x -> x.clash(6, 6));
        first("clash: no mark, the same, both below", NO_SUCH, Refusals::rich, x -> x.clash(-1, -1));
        first("editor: no editor, out of range", NO_SUCH, Refusals::rich, x -> x.editor(5, 7));
        first("editor: no editor, out of range, both below", NO_SUCH, Refusals::rich, x -> x.editor(-1, -1));
        first("ifAccepted: no mark, out of range", NO_SUCH, Refusals::rich, x -> x.ifAccepted(6, 2));
        first("ifAccepted: no mark, out of range, both below", NO_SUCH, Refusals::rich, x -> x.ifAccepted(-1, -1));
        first("ifAccepted: out of range, accepted", BAD_VALUE, Refusals::rich, x -> x.ifAccepted(0, 2));
        first("ifAccepted: out of range, refused", BAD_VALUE, Refusals::rich, x -> x.ifAccepted(1, -1));
        first("ifAccepted: out of range, a clash", BAD_VALUE, Refusals::rich, x -> x.ifAccepted(5, 2));
        first("put: no character, a full pad", BAD_VALUE, Refusals::full, x -> x.put(0));
        first("put: a bad code, a full pad", BAD_VALUE, Refusals::full, x -> x.put(packed("a b")));
        first("put: a bit above, a full pad", BAD_VALUE, Refusals::full, x -> x.put(0x610061));
        first("restore: no slot, nothing saved", BAD_VALUE, Refusals::unsaved, x -> x.restore(2));
        first("restore: no slot, nothing saved, below", BAD_VALUE, Refusals::unsaved, x -> x.restore(-1));
        section("Terms");
        says("NONE (-6) is not an error; it is returned only if no error applies", "NONE as a place is none but for version()", () -> {
            due(NO_SUCH, rich().letter(0, NONE));
            due(NO_SUCH, rich().seen(0, NONE));
            due(12, rich().version(0, NONE));
            due(NO_SUCH, rich().version(1, NONE));
        });
    }

    // ---- what changes nothing

    private static void unchanged(String words, String name, Call question) {
        section("Texts");
        says(words, name, () -> {
            due(true, question.on(rich()) >= 0);
            due(wholePortrait(Refusals::rich), wholePortrait(() -> {
                FiveInks x = rich();
                question.on(x);
                return x;
            }));
        });
    }

    private static void nothingChanges() {
        String is = "letter, seen, of, clash, editor, count, version, apart the interface says: ---- what there is; nothing changes";
        unchanged(is, "letter", x -> x.letter(0, 0) + x.letter(1, 8));
        unchanged(is, "seen", x -> x.seen(0, 0) + x.seen(3, 9));
        unchanged(is, "of", x -> x.of(0, 7) + x.of(5, 6));
        unchanged(is, "clash", x -> x.clash(0, 1) + x.clash(3, 4));
        unchanged(is, "editor", x -> x.editor(0, 6) + x.editor(4, 5));
        unchanged(is, "count", x -> x.count(1) + x.count(9));
        unchanged(is, "version", x -> x.version(0, 11) + x.version(0, NONE));
        unchanged(is, "apart", x -> x.apart(0, 0));
        String what = "ifAccepted, ifJudged the interface says: ---- what if; nothing changes";
        unchanged(what, "ifAccepted", x -> x.ifAccepted(3, 0) + x.ifAccepted(4, 1));
        unchanged(what, "ifJudged, each editor", x -> x.ifJudged(0) + x.ifJudged(1) + x.ifJudged(2) + x.ifJudged(3) + x.ifJudged(4));
        unchanged(what, "ifJudged, the letters", x -> x.ifJudged(5));
        section("Promise 23: fault");
        says("NONE if there is none", "fault() changes nothing", () -> due(wholePortrait(Refusals::rich), wholePortrait(() -> {
            FiveInks x = rich();
            due(NONE, x.fault());
            return x;
        })));
        section("Promise 22: wipe");
        says("Empties the pad", "nothing but the pad changes", () -> due(wholePortrait(PadSentences::rich), wholePortrait(() -> {
            FiveInks x = rich();
            due(11, x.wipe());
            return x;
        })));
        section("Promise 21: put");
        says("Appends characters to the pad", "nothing but the pad changes", () -> due(wholePortrait(Refusals::rich),
            wholePortrait(() -> {
                FiveInks x = PadSentences.rich();
                for (char next : "0-4:5,3+12z".toCharArray()) {
                    due(true, x.put(next) > 0);
                }
                return x;
            })));
        section("Promise 25: save");
        says("Saves everything except the pad", "nothing but the slot changes", () -> due(wholePortrait(Refusals::rich),
            wholePortrait(() -> {
                FiveInks x = PadSentences.rich();
                x.save(1);
                pad(x, "0-4:5,3+12z");
                x.save(1);
                return x;
            })));
    }

    /** No call throws, whatever it is given, and in whatever state. */
    private static void anyArguments() {
        section("Terms");
        int[] numbers = {LEAST, -7, NONE, -5, -4, -3, -2, -1, 0, 1, 2, 5, 6, 7, 9, 10, 12, 13, 19, 20, 21, 59, 60, 61, 64, MOST};
        Recipe[] states = {FiveInks::new, Refusals::rich, Refusals::full, Refusals::sixty, Refusals::unsaved};
        for (int state = 0; state < states.length; state++) {
            Recipe recipe = states[state];
            says("A method that fails returns one of the error codes", "it never throws, state " + state, () -> {
                for (int one : numbers) {
                    for (int other : numbers) {
                        anyCalls(recipe.make(), one, other);
                        anyCalls(recipe.make(), other, one);
                    }
                }
            });
        }
    }

    private static void anyCalls(FiveInks x, int one, int other) {
        Call[] calls = {o -> o.rank(one, other), o -> o.strike(one, other, one), o -> o.strike(0, one, other), o -> o.accept(one),
            o -> o.refuse(one), o -> o.wash(one), o -> o.letter(one, other), o -> o.seen(one, other), o -> o.of(one, other),
            o -> o.clash(one, other), o -> o.editor(one, other), o -> o.count(one), o -> o.version(one, other),
            o -> o.apart(one, other), o -> o.ifAccepted(one, other), o -> o.ifJudged(one), o -> o.put(one),
            o -> o.put((long) one << 32 | other), o -> o.save(one), o -> o.restore(one), FiveInks::mark, FiveInks::begin};
        for (Call call : calls) {
            due(true, call.on(x) >= NONE);
        }
    }
}
