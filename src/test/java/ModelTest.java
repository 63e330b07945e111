import java.util.ArrayList;
import java.util.Comparator;
import java.util.List;
import java.util.regex.Matcher;
import java.util.regex.Pattern;

/**
 * Holds long runs of calls on FiveInks against a second, slow program that was written from the document in
 * another way: with lists, letters that know where they come from, and a pattern for the texts.
 */
public final class ModelTest {
    private static final int NO_SUCH = -1, BAD_VALUE = -2, BAD_TEXT = -3, TOO_MANY = -4, NOT_POSSIBLE = -5, NONE = -6;
    private static final String SIXTY = "abcdefghijklmnopqrstuvwxyzabcdefghijklmnopqrstuvwxyzabcdefgh";
    private static final int RUNS = 1500;
    private static final int CALLS = 120;
    private static final int MOST_CHANGES = 300;
    private static final int CALLS_OF_ONE = 512;

    // ---- the second program

    private record Mark(int ink, int kind, int a, int b, String letters, int state) {
        Mark as(int newState) {
            return new Mark(ink, kind, a, b, letters, newState);
        }

        boolean clashes(Mark o) {
            if (kind == 1 && o.kind == 1) {
                return a == o.a;
            }
            if (kind == 1) {
                return o.a < a && a < o.b;
            }
            if (o.kind == 1) {
                return o.clashes(this);
            }
            for (int letter = a; letter < b; letter++) {
                if (o.a <= letter && letter < o.b) {
                    return true;
                }
            }
            return false;
        }

        boolean quarrels(Mark o) {
            return clashes(o) && ink != o.ink && state != 2 && o.state != 2;
        }

        int growth() {
            return letters.length() - (b - a);
        }
    }

    /** A letter of a print, and the gaps between which it stands in the text. */
    private record Printed(char letter, boolean putIn, int from, int to) {
    }

    private record State(String text, List<Mark> marks, List<String> versions, int shipped, List<Integer> ranks) {
    }

    private static final class Model {
        private static final Pattern TEXT = Pattern.compile(patternOfMark() + "(?:," + patternOfMark() + ")*");
        private static final Pattern ONE = Pattern.compile("([0-4])([-+=])([0-9]+)(?::([0-9]+))?([a-z]*)");

        private State now = new State("", List.of(), List.of(), 0, List.of(0, 1, 2, 3, 4));
        private final List<State> history = new ArrayList<>();
        private final State[] slots = new State[2];
        private String pad = "";

        private static String patternOfMark() {
            String gap = "(?:60|[1-5][0-9]|[0-9])";
            return "[0-4](?:-" + gap + ":" + gap + "|\\+" + gap + "[a-z]{1,6}|=" + gap + ":" + gap + "[a-z]{1,6})";
        }

        private void record() {
            history.add(now);
            if (history.size() > 6) {
                history.remove(0);
            }
        }

        private void set(String text, List<Mark> marks) {
            now = new State(text, marks, now.versions, now.shipped, now.ranks);
        }

        private void set(List<Mark> marks) {
            set(now.text, marks);
        }

        private boolean isMark(int mark) {
            return 0 <= mark && mark < now.marks.size();
        }

        private static List<Printed> carriedOut(String text, List<Mark> chosen) {
            List<Printed> out = new ArrayList<>();
            for (int gap = 0; gap <= text.length(); gap++) {
                for (Mark m : chosen) {
                    if (m.kind == 1 && m.a == gap) {
                        m.letters.chars().forEach(c -> out.add(new Printed((char) c, true, m.a, m.a)));
                    }
                }
                boolean hidden = false;
                for (Mark m : chosen) {
                    if (m.kind == 2 && m.a == gap) {
                        m.letters.chars().forEach(c -> out.add(new Printed((char) c, false, m.a, m.b)));
                    }
                    hidden |= m.kind != 1 && m.a <= gap && gap < m.b;
                }
                if (gap < text.length() && !hidden) {
                    out.add(new Printed(text.charAt(gap), false, gap, gap + 1));
                }
            }
            return out;
        }

        private static String letters(List<Printed> printed) {
            StringBuilder out = new StringBuilder();
            printed.forEach(p -> out.append(p.letter));
            return out.toString();
        }

        private static List<Mark> accepted(List<Mark> marks) {
            return marks.stream().filter(m -> m.state == 1).toList();
        }

        private static String print(String text, List<Mark> marks) {
            return letters(carriedOut(text, accepted(marks)));
        }

        private String print() {
            return print(now.text, now.marks);
        }

        private String seenBy(int editor) {
            List<Mark> own = now.marks.stream().filter(m -> m.state == 0 && m.ink == editor).toList();
            List<Mark> chosen = new ArrayList<>(own);
            for (Mark m : accepted(now.marks)) {
                if (own.stream().noneMatch(m::clashes)) {
                    chosen.add(m);
                }
            }
            return letters(carriedOut(now.text, chosen));
        }

        int begin() {
            if (!pad.matches("[a-z]*")) {
                return BAD_TEXT;
            }
            record();
            now = new State(pad, List.of(), List.of(), 0, now.ranks);
            pad = "";
            return now.text.length();
        }

        int rank(int editor, int rank) {
            if (editor < 0 || editor > 4) {
                return NO_SUCH;
            }
            if (rank < 0 || rank > 9) {
                return BAD_VALUE;
            }
            record();
            List<Integer> ranks = new ArrayList<>(now.ranks);
            int previous = ranks.set(editor, rank);
            now = new State(now.text, now.marks, now.versions, now.shipped, ranks);
            return previous;
        }

        private boolean clashesInOwnInk(Mark mark) {
            return now.marks.stream().anyMatch(m -> m.ink == mark.ink && m.state != 2 && m.clashes(mark));
        }

        private void add(Mark mark) {
            List<Mark> marks = new ArrayList<>(now.marks);
            marks.add(mark);
            set(marks);
        }

        int mark() {
            if (fault() != NONE) {
                return BAD_TEXT;
            }
            record();
            int made = 0;
            for (String part : pad.split(",")) {
                Matcher one = ONE.matcher(part);
                if (!one.matches()) {
                    throw new IllegalStateException(part);
                }
                int kind = "-+=".indexOf(one.group(2));
                int a = Integer.parseInt(one.group(3));
                int b = kind == 1 ? a : Integer.parseInt(one.group(4));
                Mark mark = new Mark(one.group(1).charAt(0) - '0', kind, a, b, one.group(5), 0);
                int end = now.text.length();
                if (a > end || b > end || kind != 1 && b <= a || now.marks.size() == 20 || clashesInOwnInk(mark)) {
                    break;
                }
                add(mark);
                made++;
            }
            pad = "";
            return made;
        }

        int strike(int editor, int a, int b) {
            int end = now.text.length();
            if (editor < 0 || editor > 4 || a < 0 || a > end || b < 0 || b > end) {
                return NO_SUCH;
            }
            if (b <= a) {
                return BAD_VALUE;
            }
            if (now.marks.size() == 20) {
                return TOO_MANY;
            }
            Mark mark = new Mark(editor, 0, a, b, "", 0);
            if (clashesInOwnInk(mark)) {
                return NOT_POSSIBLE;
            }
            record();
            add(mark);
            return now.marks.size() - 1;
        }

        private static List<Mark> with(List<Mark> marks, int mark, int state) {
            List<Mark> out = new ArrayList<>(marks);
            out.set(mark, out.get(mark).as(state));
            return out;
        }

        private static List<Mark> afterAccept(List<Mark> marks, int mark) {
            List<Mark> out = with(marks, mark, 1);
            out.replaceAll(m -> m.state == 0 && m.clashes(marks.get(mark)) ? m.as(2) : m);
            return out;
        }

        private static int refused(List<Mark> marks) {
            return (int) marks.stream().filter(m -> m.state == 2).count();
        }

        private boolean mayAccept(List<Mark> marks, int mark) {
            return marks.get(mark).state == 0 && accepted(marks).stream().noneMatch(m -> m.clashes(marks.get(mark)));
        }

        private boolean canAccept(List<Mark> marks, int mark) {
            return mayAccept(marks, mark) && print(now.text, afterAccept(marks, mark)).length() <= 60;
        }

        int accept(int mark) {
            if (!isMark(mark)) {
                return NO_SUCH;
            }
            if (!canAccept(now.marks, mark)) {
                return NOT_POSSIBLE;
            }
            record();
            int before = refused(now.marks);
            set(afterAccept(now.marks, mark));
            return refused(now.marks) - before;
        }

        int refuse(int mark) {
            if (!isMark(mark)) {
                return NO_SUCH;
            }
            if (now.marks.get(mark).state != 0) {
                return NOT_POSSIBLE;
            }
            record();
            set(with(now.marks, mark, 2));
            return (int) now.marks.stream().filter(m -> m.state == 0).count();
        }

        int wash(int mark) {
            if (!isMark(mark)) {
                return NO_SUCH;
            }
            List<Mark> marks = new ArrayList<>(now.marks);
            marks.remove(mark);
            if (print(now.text, marks).length() > 60) {
                return NOT_POSSIBLE;
            }
            record();
            set(marks);
            return marks.size();
        }

        private List<Mark> judged() {
            List<Integer> order = new ArrayList<>();
            for (int i = 0; i < now.marks.size(); i++) {
                order.add(i);
            }
            // The sort is stable, so that of one rank the lowest mark stays first.
            order.sort(Comparator.comparing((Integer i) -> -now.ranks.get(now.marks.get(i).ink)));
            List<Mark> marks = now.marks;
            for (int i : order) {
                if (marks.get(i).state == 0) {
                    marks = canAccept(marks, i) ? afterAccept(marks, i) : with(marks, i, 2);
                }
            }
            return marks;
        }

        int judge() {
            record();
            int before = accepted(now.marks).size();
            set(judged());
            return accepted(now.marks).size() - before;
        }

        int ship() {
            record();
            List<Printed> print = carriedOut(now.text, accepted(now.marks));
            List<Mark> stay = new ArrayList<>();
            for (Mark m : now.marks) {
                if (m.state != 0 || accepted(now.marks).stream().anyMatch(m::clashes)) {
                    continue;
                }
                // A letter put in at a gap is behind it for the gap b, ahead of it for the gap a.
                int b = (int) print.stream().filter(p -> p.putIn ? p.to < m.b : p.to <= m.b).count();
                int a = m.kind == 1 ? b : (int) print.stream().filter(p -> p.to <= m.a).count();
                Mark moved = new Mark(m.ink, m.kind, a, b, m.letters, 0);
                if (m.kind != 1 || stay.stream().noneMatch(s -> s.kind == 1 && s.ink == m.ink && s.a == moved.a)) {
                    stay.add(moved);
                }
            }
            List<String> versions = new ArrayList<>(now.versions);
            versions.add(0, letters(print));
            now = new State(letters(print), stay, versions.subList(0, Math.min(6, versions.size())), now.shipped + 1,
                now.ranks);
            return now.shipped - 1;
        }

        private static int letterOf(String text, int place) {
            return place < 0 || place >= text.length() ? NO_SUCH : text.charAt(place) - 'a';
        }

        int letter(int of, int place) {
            return of == 0 ? letterOf(now.text, place) : of == 1 ? letterOf(print(), place) : BAD_VALUE;
        }

        int seen(int editor, int place) {
            return editor < 0 || editor > 4 ? NO_SUCH : letterOf(seenBy(editor), place);
        }

        int of(int mark, int what) {
            if (!isMark(mark)) {
                return NO_SUCH;
            }
            Mark m = now.marks.get(mark);
            int[] all = {m.ink, m.kind, m.a, m.b, m.letters.length(), m.state,
                (int) now.marks.stream().filter(m::quarrels).count(), m.growth() + 100};
            return what < 0 || what > 7 ? BAD_VALUE : all[what];
        }

        int clash(int mark, int other) {
            if (!isMark(mark) || !isMark(other)) {
                return NO_SUCH;
            }
            if (mark == other) {
                return BAD_VALUE;
            }
            Mark m = now.marks.get(mark);
            Mark o = now.marks.get(other);
            return m.quarrels(o) ? 2 : m.clashes(o) ? 1 : 0;
        }

        int editor(int editor, int what) {
            if (editor < 0 || editor > 4) {
                return NO_SUCH;
            }
            List<Mark> own = now.marks.stream().filter(m -> m.ink == editor).toList();
            int quarrels = 0;
            for (Mark m : own) {
                quarrels += (int) now.marks.stream().filter(m::quarrels).count();
            }
            int[] all = {now.ranks.get(editor), own.size(), (int) own.stream().filter(m -> m.state == 0).count(),
                accepted(own).size(), refused(own), quarrels, seenBy(editor).length()};
            return what < 0 || what > 6 ? BAD_VALUE : all[what];
        }

        int count(int what) {
            int quarrels = 0;
            for (Mark m : now.marks) {
                quarrels += (int) now.marks.stream().filter(m::quarrels).count();
            }
            int[] all = {now.text.length(), print().length(), now.marks.size(),
                (int) now.marks.stream().filter(m -> m.state == 0).count(), accepted(now.marks).size(), quarrels / 2,
                now.shipped, now.versions.size(), pad.length(), history.size()};
            return what < 0 || what > 9 ? BAD_VALUE : all[what];
        }

        int version(int back, int place) {
            if (back < 0 || back >= now.versions.size()) {
                return NO_SUCH;
            }
            return place == NONE ? now.versions.get(back).length() : letterOf(now.versions.get(back), place);
        }

        int apart(int back, int other) {
            if (version(back, NONE) == NO_SUCH || version(other, NONE) == NO_SUCH) {
                return NO_SUCH;
            }
            String from = now.versions.get(back);
            String to = now.versions.get(other);
            int[][] d = new int[from.length() + 1][to.length() + 1];
            for (int i = 0; i <= from.length(); i++) {
                for (int j = 0; j <= to.length(); j++) {
                    int least = i == 0 && j == 0 ? 0 : Integer.MAX_VALUE;
                    least = i > 0 ? Math.min(least, d[i - 1][j] + 1) : least;
                    least = j > 0 ? Math.min(least, d[i][j - 1] + 1) : least;
                    if (i > 0 && j > 0) {
                        least = Math.min(least, d[i - 1][j - 1] + (from.charAt(i - 1) == to.charAt(j - 1) ? 0 : 1));
                    }
                    d[i][j] = least;
                }
            }
            return d[from.length()][to.length()];
        }

        int ifAccepted(int mark, int what) {
            if (!isMark(mark)) {
                return NO_SUCH;
            }
            if (what < 0 || what > 1) {
                return BAD_VALUE;
            }
            if (!mayAccept(now.marks, mark)) {
                return NOT_POSSIBLE;
            }
            List<Mark> then = afterAccept(now.marks, mark);
            return what == 0 ? refused(then) - refused(now.marks) : print(now.text, then).length();
        }

        int ifJudged(int what) {
            if (what < 0 || what > 5) {
                return BAD_VALUE;
            }
            List<Mark> then = judged();
            if (what == 5) {
                return print(now.text, then).length();
            }
            return refused(then.stream().filter(m -> m.ink == what).toList())
                - refused(now.marks.stream().filter(m -> m.ink == what).toList());
        }

        int put(long characters) {
            StringBuilder text = new StringBuilder();
            boolean ended = false;
            for (int i = 0; i < 8; i++) {
                int code = (int) (characters >> (8 * i)) & 255;
                if (code == 0) {
                    ended = true;
                } else if (ended || code < 33 || code > 126) {
                    return BAD_VALUE;
                } else {
                    text.insert(0, (char) code);
                }
            }
            if (text.length() == 0) {
                return BAD_VALUE;
            }
            if (pad.length() + text.length() > 60) {
                return TOO_MANY;
            }
            pad += text;
            return pad.length();
        }

        int wipe() {
            int length = pad.length();
            pad = "";
            return length;
        }

        int fault() {
            for (int i = 1; i <= pad.length(); i++) {
                Matcher matcher = TEXT.matcher(pad.substring(0, i));
                if (!matcher.matches() && !matcher.hitEnd()) {
                    return i - 1;
                }
            }
            return TEXT.matcher(pad).matches() ? NONE : pad.length();
        }

        int undo() {
            if (history.isEmpty()) {
                return NOT_POSSIBLE;
            }
            now = history.remove(history.size() - 1);
            return history.size();
        }

        int save(int slot) {
            if (slot < 0 || slot > 1) {
                return BAD_VALUE;
            }
            slots[slot] = now;
            return now.marks.size();
        }

        int restore(int slot) {
            if (slot < 0 || slot > 1) {
                return BAD_VALUE;
            }
            if (slots[slot] == null) {
                return NOT_POSSIBLE;
            }
            record();
            now = slots[slot];
            return now.marks.size();
        }
    }

    // ---- the runs

    private interface Call {
        int on(FiveInks inks);
    }

    private interface Question<T> {
        int ask(T of, int x, int y);
    }

    private final List<Call> changes = new ArrayList<>();
    private FiveInks real = new FiveInks();
    private int used = 0;
    private final Model model = new Model();
    private final StringBuilder calls = new StringBuilder();
    private long seed;
    private boolean wrong = false;

    private ModelTest(long seed) {
        this.seed = seed * 7919 + 12345;
    }

    private int upTo(int highest) {
        seed = seed * 6364136223846793005L + 1442695040888963407L;
        return (int) ((seed >>> 33) % (highest + 1));
    }

    /** Mostly a number from 0 to the highest, at times one beside, at times one far off. */
    private int about(int highest) {
        int dice = upTo(39);
        if (dice == 0) {
            int[] far = {Integer.MIN_VALUE, Integer.MAX_VALUE, NONE, -2, 1000, 61};
            return far[upTo(5)];
        }
        return dice == 1 ? -1 : dice == 2 ? highest + 1 : upTo(Math.max(highest, 0));
    }

    /** An object is used for at most 512 calls; then another one is brought to where it stands. */
    private int answer(Call call) {
        if (used == CALLS_OF_ONE) {
            real = new FiveInks();
            changes.forEach(change -> change.on(real));
            used = changes.size();
        }
        used++;
        return call.on(real);
    }

    private int change(Call call) {
        int answer = answer(call);
        changes.add(call);
        return answer;
    }

    private void same(String call, int want, int got) {
        if (want != got && !wrong) {
            wrong = true;
            System.out.println(calls);
            System.out.println(call + ": the model says " + want + ", the answer was " + got);
        }
    }

    private void ask(String name, int x, int y, Question<Model> want, Question<FiveInks> got) {
        same(name + "(" + x + ", " + y + ")", want.ask(model, x, y), answer(o -> got.ask(o, x, y)));
    }

    private void call(String name, int x, int y, int z) {
        String call = name + "(" + x + ", " + y + ", " + z + ")";
        calls.append(call).append('\n');
        switch (name) {
            case "begin" -> same(call, model.begin(), change(FiveInks::begin));
            case "rank" -> same(call, model.rank(x, y), change(o -> o.rank(x, y)));
            case "mark" -> same(call, model.mark(), change(FiveInks::mark));
            case "strike" -> same(call, model.strike(x, y, z), change(o -> o.strike(x, y, z)));
            case "accept" -> same(call, model.accept(x), change(o -> o.accept(x)));
            case "refuse" -> same(call, model.refuse(x), change(o -> o.refuse(x)));
            case "wash" -> same(call, model.wash(x), change(o -> o.wash(x)));
            case "judge" -> same(call, model.judge(), change(FiveInks::judge));
            case "ship" -> same(call, model.ship(), change(FiveInks::ship));
            case "wipe" -> same(call, model.wipe(), change(FiveInks::wipe));
            case "undo" -> same(call, model.undo(), change(FiveInks::undo));
            case "save" -> same(call, model.save(x), change(o -> o.save(x)));
            case "restore" -> same(call, model.restore(x), change(o -> o.restore(x)));
            default -> throw new IllegalStateException(name);
        }
    }

    private void put(long characters) {
        calls.append("put(").append(characters).append(")\n");
        same("put", model.put(characters), change(o -> o.put(characters)));
    }

    private void write(String text) {
        for (int i = 0; i < text.length(); i += 8) {
            long packed = 0;
            for (char c : text.substring(i, Math.min(text.length(), i + 8)).toCharArray()) {
                packed = packed << 8 | c;
            }
            put(packed);
        }
    }

    private String someLetters(int highest) {
        StringBuilder out = new StringBuilder();
        for (int left = upTo(highest); left > 0; left--) {
            out.append((char) ('a' + upTo(3)));
        }
        return out.toString();
    }

    /** Often one of nearly 60 letters, so that what a print may hold is reached. */
    private String someText() {
        int dice = upTo(5);
        return dice < 2 ? SIXTY.substring(upTo(6)) : someLetters(dice == 2 ? 60 : 14);
    }

    private String someMark() {
        int end = Math.max(model.now.text.length(), 1);
        int a = Math.min(upTo(end), 60);
        int b = upTo(9) == 0 ? upTo(60) : Math.min(end, a + 1 + upTo(3));
        String letters = (char) ('a' + upTo(25)) + someLetters(5);
        return switch (upTo(2)) {
            case 0 -> upTo(4) + "-" + a + ":" + b;
            case 1 -> upTo(4) + "+" + a + letters;
            default -> upTo(4) + "=" + a + ":" + b + letters;
        };
    }

    private String someMarks() {
        StringBuilder out = new StringBuilder(someMark());
        for (int left = upTo(5); left > 0 && out.length() < 45; left--) {
            out.append(',').append(someMark());
        }
        if (upTo(9) == 0) {
            String spoilt = "-+=:,0169azA!~";
            out.setCharAt(upTo(out.length() - 1), spoilt.charAt(upTo(spoilt.length() - 1)));
        }
        if (upTo(14) == 0) {
            out.setLength(upTo(out.length()));
        }
        return out.toString();
    }

    private void someCall() {
        int marks = model.now.marks.size() - 1;
        int end = model.now.text.length();
        switch (upTo(32)) {
            case 0 -> write(someText());
            case 1, 2 -> call("begin", 0, 0, 0);
            case 3, 4 -> call("rank", about(4), about(9), 0);
            case 5, 6, 7, 8, 9, 10 -> {
                call("wipe", 0, 0, 0);
                write(someMarks());
                same("fault", model.fault(), answer(FiveInks::fault));
                call("mark", 0, 0, 0);
            }
            case 11, 12 -> call("strike", about(4), about(end), about(end));
            case 13, 14, 15, 16, 17 -> call("accept", about(marks), 0, 0);
            case 18 -> call("refuse", about(marks), 0, 0);
            case 19, 30, 31 -> call("wash", about(marks), 0, 0);
            case 20 -> call("judge", 0, 0, 0);
            case 21, 22, 23 -> call("ship", 0, 0, 0);
            case 24, 25 -> call("undo", 0, 0, 0);
            case 26 -> call("save", about(1), 0, 0);
            case 27 -> call("restore", about(1), 0, 0);
            case 28 -> write(someMarks());
            case 29 -> put(((long) upTo(Integer.MAX_VALUE - 1) << 32) ^ upTo(Integer.MAX_VALUE - 1));
            default -> call("wipe", 0, 0, 0);
        }
    }

    private void compareMarks() {
        for (int mark = -1; mark <= model.now.marks.size(); mark++) {
            for (int what = -1; what <= 8; what++) {
                ask("of", mark, what, Model::of, FiveInks::of);
            }
            for (int other = -1; other <= model.now.marks.size(); other++) {
                ask("clash", mark, other, Model::clash, FiveInks::clash);
            }
            for (int what = -1; what <= 2; what++) {
                ask("ifAccepted", mark, what, Model::ifAccepted, FiveInks::ifAccepted);
            }
        }
    }

    private void compareTexts() {
        for (int of = -1; of <= 2; of++) {
            for (int place = -1; place <= 61; place++) {
                ask("letter", of, place, Model::letter, FiveInks::letter);
            }
        }
        for (int editor = -1; editor <= 5; editor++) {
            for (int what = -1; what <= 7; what++) {
                ask("editor", editor, what, Model::editor, FiveInks::editor);
            }
            for (int place = -1; place <= model.editor(editor, 6); place++) {
                ask("seen", editor, place, Model::seen, FiveInks::seen);
            }
        }
    }

    private void compareVersions() {
        for (int back = -1; back <= 6; back++) {
            for (int place = -7; place <= model.version(back, NONE); place++) {
                ask("version", back, place, Model::version, FiveInks::version);
            }
            for (int other = -1; other <= 6; other++) {
                ask("apart", back, other, Model::apart, FiveInks::apart);
            }
        }
    }

    private void compare() {
        for (int what = -1; what <= 10; what++) {
            ask("count", what, 0, (o, x, y) -> o.count(x), (o, x, y) -> o.count(x));
        }
        for (int what = -1; what <= 6; what++) {
            ask("ifJudged", what, 0, (o, x, y) -> o.ifJudged(x), (o, x, y) -> o.ifJudged(x));
        }
        same("fault", model.fault(), answer(FiveInks::fault));
        compareMarks();
        switch (upTo(7)) {
            case 0 -> compareTexts();
            case 1 -> compareVersions();
            default -> { }
        }
    }

    private boolean isRight() {
        write(someText());
        call("begin", 0, 0, 0);
        for (int i = 0; i < CALLS && changes.size() < MOST_CHANGES && !wrong; i++) {
            someCall();
            compare();
        }
        return !wrong;
    }

    public static void main(String[] args) {
        for (int run = 0; run < RUNS; run++) {
            if (!new ModelTest(run).isRight()) {
                System.out.println("model: the run " + run + " is wrong");
                System.exit(1);
            }
        }
        System.out.println("model: " + RUNS + " runs of up to " + CALLS + " steps and all questions, none wrong");
    }
}
