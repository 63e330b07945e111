/**
 * Revision marks of five editors in their inks on one text. The document DOC.md says what each call answers.
 *
 * All rows are made together with the object and used again: no call leaves an object behind.
 */
public final class FiveInks {
    public static final int NO_SUCH = -1, BAD_VALUE = -2, BAD_TEXT = -3, TOO_MANY = -4, NOT_POSSIBLE = -5, NONE = -6;
    public static final int STRIKE = 0, PUT_IN = 1, REPLACE = 2;

    private static final int EDITORS = 5, HIGHEST_RANK = 9;
    private static final int MOST_LETTERS = 60, MOST_MARKS = 20, MOST_PUT_IN = 6;
    // An editor's own view has no limit of 60: all 20 marks may put their letters in.
    private static final int LONGEST_VIEW = MOST_LETTERS + MOST_MARKS * MOST_PUT_IN;
    private static final int KEPT_VERSIONS = 6, KEPT_STATES = 6, SLOTS = 2;
    private static final int PAD_ROOM = 60, MOST_AT_ONCE = 8;
    private static final int OPEN = 0, ACCEPTED = 1, REFUSED = 2;

    private final Sheet now = new Sheet();
    private final History history = new History();
    private final Slots slots = new Slots();
    private final Pad pad = new Pad();
    private final Reader reader = new Reader();
    private final View view = new View();
    private final int[] statesBefore = new int[MOST_MARKS];
    private final int[] distances = new int[MOST_LETTERS + 1];

    public FiveInks() {
    }

    // ---- the text, ranks

    public int begin() {
        if (!pad.hasOnlyLetters()) {
            return BAD_TEXT;
        }
        history.record(now);
        now.startWith(pad);
        pad.clear();
        return now.text.length;
    }

    public int rank(int editor, int rank) {
        if (!isEditor(editor)) {
            return NO_SUCH;
        }
        if (rank < 0 || rank > HIGHEST_RANK) {
            return BAD_VALUE;
        }
        history.record(now);
        int previous = now.ranks[editor];
        now.ranks[editor] = rank;
        return previous;
    }

    // ---- marks

    public int mark() {
        if (reader.read(pad) != NONE) {
            return BAD_TEXT;
        }
        history.record(now);
        int made = 0;
        while (made < reader.drafts.size && now.canTake(reader.drafts, made)) {
            now.marks.take(reader.drafts, made);
            made++;
        }
        pad.clear();
        return made;
    }

    public int strike(int editor, int a, int b) {
        if (!isEditor(editor) || !now.hasGap(a) || !now.hasGap(b)) {
            return NO_SUCH;
        }
        if (b <= a) {
            return BAD_VALUE;
        }
        if (now.marks.size >= MOST_MARKS) {
            return TOO_MANY;
        }
        Marks drafts = reader.drafts;
        drafts.clear();
        drafts.add(editor, STRIKE, a, b);
        if (now.marks.hasClashInOwnInk(drafts, 0)) {
            return NOT_POSSIBLE;
        }
        history.record(now);
        now.marks.take(drafts, 0);
        return now.marks.size - 1;
    }

    public int accept(int mark) {
        if (!now.marks.has(mark)) {
            return NO_SUCH;
        }
        if (!now.canAccept(mark)) {
            return NOT_POSSIBLE;
        }
        history.record(now);
        return now.marks.acceptOpen(mark);
    }

    public int refuse(int mark) {
        if (!now.marks.has(mark)) {
            return NO_SUCH;
        }
        if (now.marks.state[mark] != OPEN) {
            return NOT_POSSIBLE;
        }
        history.record(now);
        now.marks.state[mark] = REFUSED;
        return now.marks.inState(OPEN);
    }

    public int wash(int mark) {
        if (!now.marks.has(mark)) {
            return NO_SUCH;
        }
        if (now.printLengthWithout(mark) > MOST_LETTERS) {
            return NOT_POSSIBLE;
        }
        history.record(now);
        now.marks.remove(mark);
        return now.marks.size;
    }

    public int judge() {
        history.record(now);
        return now.judgeByRank();
    }

    public int ship() {
        history.record(now);
        view.showPrint(now);
        now.shipAs(view);
        return now.versions.shipped - 1;
    }

    // ---- what there is; nothing changes

    public int letter(int of, int place) {
        if (of == 0) {
            return now.text.at(place);
        }
        if (of == 1) {
            view.showPrint(now);
            return view.at(place);
        }
        return BAD_VALUE;
    }

    public int seen(int editor, int place) {
        if (!isEditor(editor)) {
            return NO_SUCH;
        }
        view.showSeenBy(editor, now);
        return view.at(place);
    }

    public int of(int mark, int what) {
        Marks marks = now.marks;
        if (!marks.has(mark)) {
            return NO_SUCH;
        }
        switch (what) {
            case 0: return marks.ink[mark];
            case 1: return marks.kind[mark];
            case 2: return marks.a[mark];
            case 3: return marks.b[mark];
            case 4: return marks.putIn[mark];
            case 5: return marks.state[mark];
            case 6: return marks.quarrelsOf(mark);
            case 7: return marks.growthBy(mark) + 100;
            default: return BAD_VALUE;
        }
    }

    public int clash(int mark, int other) {
        if (!now.marks.has(mark) || !now.marks.has(other)) {
            return NO_SUCH;
        }
        if (mark == other) {
            return BAD_VALUE;
        }
        if (!now.marks.clashing(mark, other)) {
            return 0;
        }
        return now.marks.quarrelling(mark, other) ? 2 : 1;
    }

    public int editor(int editor, int what) {
        if (!isEditor(editor)) {
            return NO_SUCH;
        }
        switch (what) {
            case 0: return now.ranks[editor];
            case 1: return now.marks.inInk(editor);
            case 2: return now.marks.inInkAndState(editor, OPEN);
            case 3: return now.marks.inInkAndState(editor, ACCEPTED);
            case 4: return now.marks.inInkAndState(editor, REFUSED);
            case 5: return now.marks.quarrelsOfInk(editor);
            case 6: return seenLength(editor);
            default: return BAD_VALUE;
        }
    }

    public int count(int what) {
        switch (what) {
            case 0: return now.text.length;
            case 1: return now.printLength();
            case 2: return now.marks.size;
            case 3: return now.marks.inState(OPEN);
            case 4: return now.marks.inState(ACCEPTED);
            case 5: return now.marks.quarrels();
            case 6: return now.versions.shipped;
            case 7: return now.versions.kept();
            case 8: return pad.length;
            case 9: return history.length;
            default: return BAD_VALUE;
        }
    }

    public int version(int back, int place) {
        if (!now.versions.has(back)) {
            return NO_SUCH;
        }
        if (place == NONE) {
            return now.versions.lengthOf(back);
        }
        return now.versions.at(back, place);
    }

    public int apart(int back, int other) {
        if (!now.versions.has(back) || !now.versions.has(other)) {
            return NO_SUCH;
        }
        return now.versions.distance(back, other, distances);
    }

    // ---- what if; nothing changes

    public int ifAccepted(int mark, int what) {
        if (!now.marks.has(mark)) {
            return NO_SUCH;
        }
        if (what != 0 && what != 1) {
            return BAD_VALUE;
        }
        if (now.marks.state[mark] != OPEN || now.marks.clashesWithAny(mark, ACCEPTED)) {
            return NOT_POSSIBLE;
        }
        return what == 0 ? now.marks.openClashesOf(mark) : now.printLength() + now.marks.growthBy(mark);
    }

    public int ifJudged(int what) {
        if (what < 0 || what > EDITORS) {
            return BAD_VALUE;
        }
        // Judging changes nothing but how the marks are, so these are all that has to be put back.
        System.arraycopy(now.marks.state, 0, statesBefore, 0, MOST_MARKS);
        now.judgeByRank();
        int answer = what == EDITORS ? now.printLength() : now.marks.refusedSince(statesBefore, what);
        System.arraycopy(statesBefore, 0, now.marks.state, 0, MOST_MARKS);
        return answer;
    }

    // ---- texts

    public int put(long characters) {
        int added = Pad.charactersIn(characters);
        if (added == NONE) {
            return BAD_VALUE;
        }
        if (pad.length + added > PAD_ROOM) {
            return TOO_MANY;
        }
        pad.append(characters, added);
        return pad.length;
    }

    public int wipe() {
        int previous = pad.length;
        pad.clear();
        return previous;
    }

    public int fault() {
        return reader.read(pad);
    }

    // ---- undo, saving

    public int undo() {
        if (history.length == 0) {
            return NOT_POSSIBLE;
        }
        history.takeBack(now);
        return history.length;
    }

    public int save(int slot) {
        if (!Slots.isSlot(slot)) {
            return BAD_VALUE;
        }
        slots.keep(slot, now);
        return now.marks.size;
    }

    public int restore(int slot) {
        if (!Slots.isSlot(slot)) {
            return BAD_VALUE;
        }
        if (!slots.saved[slot]) {
            return NOT_POSSIBLE;
        }
        history.record(now);
        now.takeOver(slots.sheets[slot]);
        return now.marks.size;
    }

    private static boolean isEditor(int editor) {
        return editor >= 0 && editor < EDITORS;
    }

    private int seenLength(int editor) {
        view.showSeenBy(editor, now);
        return view.length;
    }

    /** The letters of the text. */
    private static final class Text {
        private final int[] letters = new int[MOST_LETTERS];
        private int length;

        void clear() {
            length = 0;
        }

        void add(int letter) {
            if (length < MOST_LETTERS) {
                letters[length] = letter;
                length++;
            }
        }

        int at(int place) {
            return place >= 0 && place < length ? letters[place] : NO_SUCH;
        }

        void takeOver(Text other) {
            System.arraycopy(other.letters, 0, letters, 0, MOST_LETTERS);
            length = other.length;
        }
    }

    /** A table of marks, the mark i in the row i of each column. */
    private static final class Marks {
        private final int[] ink = new int[MOST_MARKS];
        private final int[] kind = new int[MOST_MARKS];
        private final int[] a = new int[MOST_MARKS];
        private final int[] b = new int[MOST_MARKS];
        private final int[] state = new int[MOST_MARKS];
        private final int[] putIn = new int[MOST_MARKS];
        private final int[] letters = new int[MOST_MARKS * MOST_PUT_IN];
        private int size;

        void clear() {
            size = 0;
        }

        boolean has(int mark) {
            return mark >= 0 && mark < size;
        }

        void add(int newInk, int newKind, int newA, int newB) {
            if (size < MOST_MARKS) {
                ink[size] = newInk;
                kind[size] = newKind;
                a[size] = newA;
                b[size] = newB;
                state[size] = OPEN;
                putIn[size] = 0;
                size++;
            }
        }

        void addLetterToLast(int letter) {
            int last = size - 1;
            if (last >= 0 && putIn[last] < MOST_PUT_IN) {
                letters[last * MOST_PUT_IN + putIn[last]] = letter;
                putIn[last]++;
            }
        }

        /** Takes a row of another table as the last one of this one. */
        void take(Marks others, int other) {
            if (size < MOST_MARKS) {
                copyRow(others, other, size);
                size++;
            }
        }

        void remove(int mark) {
            for (int i = mark + 1; i < size; i++) {
                copyRow(this, i, i - 1);
            }
            size--;
        }

        private void copyRow(Marks source, int from, int to) {
            ink[to] = source.ink[from];
            kind[to] = source.kind[from];
            a[to] = source.a[from];
            b[to] = source.b[from];
            state[to] = source.state[from];
            putIn[to] = source.putIn[from];
            System.arraycopy(source.letters, from * MOST_PUT_IN, letters, to * MOST_PUT_IN, MOST_PUT_IN);
        }

        void takeOver(Marks other) {
            System.arraycopy(other.ink, 0, ink, 0, MOST_MARKS);
            System.arraycopy(other.kind, 0, kind, 0, MOST_MARKS);
            System.arraycopy(other.a, 0, a, 0, MOST_MARKS);
            System.arraycopy(other.b, 0, b, 0, MOST_MARKS);
            System.arraycopy(other.state, 0, state, 0, MOST_MARKS);
            System.arraycopy(other.putIn, 0, putIn, 0, MOST_MARKS);
            System.arraycopy(other.letters, 0, letters, 0, MOST_MARKS * MOST_PUT_IN);
            size = other.size;
        }

        boolean clashing(int mark, int other) {
            return clashingWith(mark, this, other);
        }

        private boolean clashingWith(int mark, Marks others, int other) {
            boolean puts = kind[mark] == PUT_IN;
            boolean otherPuts = others.kind[other] == PUT_IN;
            if (puts && otherPuts) {
                return a[mark] == others.a[other];
            }
            if (puts) {
                return a[mark] > others.a[other] && a[mark] < others.b[other];
            }
            if (otherPuts) {
                return others.a[other] > a[mark] && others.a[other] < b[mark];
            }
            return a[mark] < others.b[other] && others.a[other] < b[mark];
        }

        boolean quarrelling(int mark, int other) {
            return ink[mark] != ink[other] && state[mark] != REFUSED && state[other] != REFUSED
                    && clashing(mark, other);
        }

        boolean hasClashInOwnInk(Marks drafts, int draft) {
            for (int i = 0; i < size; i++) {
                if (ink[i] == drafts.ink[draft] && state[i] != REFUSED && clashingWith(i, drafts, draft)) {
                    return true;
                }
            }
            return false;
        }

        boolean clashesWithAny(int mark, int wantedState) {
            for (int i = 0; i < size; i++) {
                if (i != mark && state[i] == wantedState && clashing(mark, i)) {
                    return true;
                }
            }
            return false;
        }

        boolean clashesWithOpenOf(int editor, int mark) {
            for (int i = 0; i < size; i++) {
                if (i != mark && ink[i] == editor && state[i] == OPEN && clashing(mark, i)) {
                    return true;
                }
            }
            return false;
        }

        int openClashesOf(int mark) {
            int found = 0;
            for (int i = 0; i < size; i++) {
                if (i != mark && state[i] == OPEN && clashing(mark, i)) {
                    found++;
                }
            }
            return found;
        }

        /** Returns how many marks are refused by that. */
        int acceptOpen(int mark) {
            state[mark] = ACCEPTED;
            int refused = 0;
            for (int i = 0; i < size; i++) {
                if (i != mark && state[i] == OPEN && clashing(mark, i)) {
                    state[i] = REFUSED;
                    refused++;
                }
            }
            return refused;
        }

        int growthBy(int mark) {
            return putIn[mark] - (b[mark] - a[mark]);
        }

        int growthByAccepted() {
            int growth = 0;
            for (int i = 0; i < size; i++) {
                if (state[i] == ACCEPTED) {
                    growth += growthBy(i);
                }
            }
            return growth;
        }

        int quarrelsOf(int mark) {
            int found = 0;
            for (int i = 0; i < size; i++) {
                if (quarrelling(mark, i)) {
                    found++;
                }
            }
            return found;
        }

        int quarrelsOfInk(int editor) {
            int found = 0;
            for (int i = 0; i < size; i++) {
                if (ink[i] == editor) {
                    found += quarrelsOf(i);
                }
            }
            return found;
        }

        int quarrels() {
            int found = 0;
            for (int i = 0; i < size; i++) {
                for (int j = i + 1; j < size; j++) {
                    if (quarrelling(i, j)) {
                        found++;
                    }
                }
            }
            return found;
        }

        int inState(int wanted) {
            int found = 0;
            for (int i = 0; i < size; i++) {
                if (state[i] == wanted) {
                    found++;
                }
            }
            return found;
        }

        int inInk(int editor) {
            int found = 0;
            for (int i = 0; i < size; i++) {
                if (ink[i] == editor) {
                    found++;
                }
            }
            return found;
        }

        int inInkAndState(int editor, int wanted) {
            int found = 0;
            for (int i = 0; i < size; i++) {
                if (ink[i] == editor && state[i] == wanted) {
                    found++;
                }
            }
            return found;
        }

        int refusedSince(int[] before, int editor) {
            int found = 0;
            for (int i = 0; i < size && i < before.length; i++) {
                if (ink[i] == editor && before[i] != REFUSED && state[i] == REFUSED) {
                    found++;
                }
            }
            return found;
        }

        /** Leaves the open marks that go on to the next text, at their gaps there. */
        void carryOver() {
            // Accepted marks stay where they are until all the others were carried over by them.
            for (int i = 0; i < size; i++) {
                if (state[i] == OPEN) {
                    carryGaps(i);
                }
            }
            int kept = 0;
            for (int i = 0; i < size; i++) {
                if (state[i] == OPEN && !isPutInTwice(i, kept)) {
                    copyRow(this, i, kept);
                    kept++;
                }
            }
            size = kept;
        }

        private void carryGaps(int mark) {
            if (clashesWithAny(mark, ACCEPTED)) {
                state[mark] = REFUSED;
                return;
            }
            int newB = printedAhead(b[mark]);
            a[mark] = kind[mark] == PUT_IN ? newB : printedAhead(a[mark]) + printedAt(a[mark]);
            b[mark] = newB;
        }

        private boolean isPutInTwice(int mark, int kept) {
            for (int i = 0; i < kept; i++) {
                if (kind[mark] == PUT_IN && kind[i] == PUT_IN && ink[i] == ink[mark] && a[i] == a[mark]) {
                    return true;
                }
            }
            return false;
        }

        /**
         * How many letters of the print come from ahead of a gap. An accepted mark lies wholly ahead of it or
         * wholly behind it: the gap of an open mark within an accepted one would clash.
         */
        private int printedAhead(int gap) {
            int printed = gap;
            for (int i = 0; i < size; i++) {
                boolean ahead = kind[i] == PUT_IN ? a[i] < gap : b[i] <= gap;
                if (state[i] == ACCEPTED && ahead) {
                    printed += growthBy(i);
                }
            }
            return printed;
        }

        private int printedAt(int gap) {
            int printed = 0;
            for (int i = 0; i < size; i++) {
                if (state[i] == ACCEPTED && kind[i] == PUT_IN && a[i] == gap) {
                    printed += putIn[i];
                }
            }
            return printed;
        }
    }

    /** The versions that are kept: the one with the number v in the row v modulo 6. */
    private static final class Versions {
        private final int[] letters = new int[KEPT_VERSIONS * MOST_LETTERS];
        private final int[] lengths = new int[KEPT_VERSIONS];
        private int shipped;

        void clear() {
            shipped = 0;
        }

        int kept() {
            return Math.min(shipped, KEPT_VERSIONS);
        }

        boolean has(int back) {
            return back >= 0 && back < kept();
        }

        void add(Text text) {
            int row = shipped % KEPT_VERSIONS;
            System.arraycopy(text.letters, 0, letters, row * MOST_LETTERS, MOST_LETTERS);
            lengths[row] = text.length;
            shipped++;
        }

        int lengthOf(int back) {
            return has(back) ? lengths[rowOf(back)] : 0;
        }

        int at(int back, int place) {
            if (place < 0 || place >= lengthOf(back)) {
                return NO_SUCH;
            }
            return letters[rowOf(back) * MOST_LETTERS + place];
        }

        private int rowOf(int back) {
            return Math.floorMod(shipped - 1 - back, KEPT_VERSIONS);
        }

        /** The row has the distances of one beginning of the one version to each beginning of the other one. */
        int distance(int back, int other, int[] row) {
            int height = lengthOf(back);
            int width = Math.min(lengthOf(other), row.length - 1);
            int first = rowOf(back) * MOST_LETTERS;
            int second = rowOf(other) * MOST_LETTERS;
            for (int j = 0; j <= width; j++) {
                row[j] = j;
            }
            for (int i = 0; i < height; i++) {
                int diagonal = row[0];
                row[0] = i + 1;
                for (int j = 0; j < width; j++) {
                    int exchanged = letters[first + i] == letters[second + j] ? diagonal : diagonal + 1;
                    diagonal = row[j + 1];
                    row[j + 1] = Math.min(exchanged, 1 + Math.min(diagonal, row[j]));
                }
            }
            return row[width];
        }

        void takeOver(Versions other) {
            System.arraycopy(other.letters, 0, letters, 0, KEPT_VERSIONS * MOST_LETTERS);
            System.arraycopy(other.lengths, 0, lengths, 0, KEPT_VERSIONS);
            shipped = other.shipped;
        }
    }

    /** All that undo and the slots bring back. */
    private static final class Sheet {
        private final Text text = new Text();
        private final Marks marks = new Marks();
        private final Versions versions = new Versions();
        private final int[] ranks = {0, 1, 2, 3, 4};

        void takeOver(Sheet other) {
            text.takeOver(other.text);
            marks.takeOver(other.marks);
            versions.takeOver(other.versions);
            System.arraycopy(other.ranks, 0, ranks, 0, EDITORS);
        }

        void startWith(Pad pad) {
            text.clear();
            for (int i = 0; i < pad.length; i++) {
                text.add(pad.at(i) - 'a');
            }
            marks.clear();
            versions.clear();
        }

        boolean hasGap(int gap) {
            return gap >= 0 && gap <= text.length;
        }

        boolean canTake(Marks drafts, int draft) {
            int a = drafts.a[draft];
            int b = drafts.b[draft];
            boolean suits = drafts.kind[draft] == PUT_IN ? a == b : a < b;
            return hasGap(a) && hasGap(b) && suits && marks.size < MOST_MARKS
                    && !marks.hasClashInOwnInk(drafts, draft);
        }

        int printLength() {
            return text.length + marks.growthByAccepted();
        }

        int printLengthWithout(int mark) {
            return marks.state[mark] == ACCEPTED ? printLength() - marks.growthBy(mark) : printLength();
        }

        boolean canAccept(int mark) {
            return marks.state[mark] == OPEN && !marks.clashesWithAny(mark, ACCEPTED)
                    && printLength() + marks.growthBy(mark) <= MOST_LETTERS;
        }

        /** Returns how many marks are accepted. */
        int judgeByRank() {
            int accepted = 0;
            for (int rank = HIGHEST_RANK; rank >= 0; rank--) {
                for (int i = 0; i < marks.size; i++) {
                    if (marks.state[i] == OPEN && ranks[marks.ink[i]] == rank && isAcceptedByVerdict(i)) {
                        accepted++;
                    }
                }
            }
            return accepted;
        }

        private boolean isAcceptedByVerdict(int mark) {
            if (canAccept(mark)) {
                marks.acceptOpen(mark);
                return true;
            }
            marks.state[mark] = REFUSED;
            return false;
        }

        void shipAs(View print) {
            text.clear();
            for (int i = 0; i < print.length; i++) {
                text.add(print.at(i));
            }
            versions.add(text);
            marks.carryOver();
        }
    }

    /** The text with some marks carried out that do not clash with one another. */
    private static final class View {
        private final boolean[] chosen = new boolean[MOST_MARKS];
        private final int[] putInAt = new int[MOST_LETTERS + 1];
        private final int[] coverFrom = new int[MOST_LETTERS + 1];
        private final int[] letters = new int[LONGEST_VIEW];
        private int length;

        int at(int place) {
            return place >= 0 && place < length ? letters[place] : NO_SUCH;
        }

        void showPrint(Sheet sheet) {
            for (int i = 0; i < sheet.marks.size; i++) {
                chosen[i] = sheet.marks.state[i] == ACCEPTED;
            }
            carryOut(sheet);
        }

        void showSeenBy(int editor, Sheet sheet) {
            Marks marks = sheet.marks;
            for (int i = 0; i < marks.size; i++) {
                if (marks.state[i] == OPEN) {
                    chosen[i] = marks.ink[i] == editor;
                } else {
                    chosen[i] = marks.state[i] == ACCEPTED && !marks.clashesWithOpenOf(editor, i);
                }
            }
            carryOut(sheet);
        }

        private void carryOut(Sheet sheet) {
            Marks marks = sheet.marks;
            int end = sheet.text.length;
            placeChosen(marks, end);
            length = 0;
            int hiddenUpTo = 0;
            for (int gap = 0; gap <= end; gap++) {
                addLettersOf(marks, putInAt[gap]);
                int cover = coverFrom[gap];
                if (cover != NONE) {
                    addLettersOf(marks, cover);
                    hiddenUpTo = marks.b[cover];
                }
                if (gap < end && gap >= hiddenUpTo) {
                    add(sheet.text.letters[gap]);
                }
            }
        }

        private void placeChosen(Marks marks, int end) {
            for (int gap = 0; gap <= end; gap++) {
                putInAt[gap] = NONE;
                coverFrom[gap] = NONE;
            }
            for (int i = 0; i < marks.size; i++) {
                int gap = marks.a[i];
                if (chosen[i] && gap >= 0 && gap <= end) {
                    if (marks.kind[i] == PUT_IN) {
                        putInAt[gap] = i;
                    } else {
                        coverFrom[gap] = i;
                    }
                }
            }
        }

        private void addLettersOf(Marks marks, int mark) {
            if (mark == NONE) {
                return;
            }
            for (int i = 0; i < marks.putIn[mark]; i++) {
                add(marks.letters[mark * MOST_PUT_IN + i]);
            }
        }

        private void add(int letter) {
            if (length < LONGEST_VIEW) {
                letters[length] = letter;
                length++;
            }
        }
    }

    /** The latest states, in a ring. */
    private static final class History {
        private final Sheet[] sheets = new Sheet[KEPT_STATES];
        private int next;
        private int length;

        History() {
            for (int i = 0; i < KEPT_STATES; i++) {
                sheets[i] = new Sheet();
            }
        }

        void record(Sheet now) {
            sheets[next].takeOver(now);
            next = (next + 1) % KEPT_STATES;
            length = Math.min(length + 1, KEPT_STATES);
        }

        void takeBack(Sheet now) {
            next = (next + KEPT_STATES - 1) % KEPT_STATES;
            length--;
            now.takeOver(sheets[next]);
        }
    }

    /** The saved states. */
    private static final class Slots {
        private final Sheet[] sheets = new Sheet[SLOTS];
        private final boolean[] saved = new boolean[SLOTS];

        Slots() {
            for (int i = 0; i < SLOTS; i++) {
                sheets[i] = new Sheet();
            }
        }

        static boolean isSlot(int slot) {
            return slot >= 0 && slot < SLOTS;
        }

        void keep(int slot, Sheet now) {
            sheets[slot].takeOver(now);
            saved[slot] = true;
        }
    }

    /** The characters of the pad. */
    private static final class Pad {
        private final int[] codes = new int[PAD_ROOM];
        private int length;

        void clear() {
            length = 0;
        }

        int at(int index) {
            return index >= 0 && index < length ? codes[index] : NONE;
        }

        boolean hasLetterAt(int index) {
            return at(index) >= 'a' && at(index) <= 'z';
        }

        boolean hasOnlyLetters() {
            for (int i = 0; i < length; i++) {
                if (!hasLetterAt(i)) {
                    return false;
                }
            }
            return true;
        }

        /** Returns how many characters are in the number, or NONE if it is not one of characters. */
        static int charactersIn(long packed) {
            int found = 0;
            while (found < MOST_AT_ONCE && packed >>> (8 * found) != 0) {
                int code = codeIn(packed, found);
                if (code < 33 || code > 126) {
                    return NONE;
                }
                found++;
            }
            return found == 0 ? NONE : found;
        }

        /** The code of a character, counted from the last one. */
        private static int codeIn(long packed, int fromLast) {
            return (int) ((packed >>> (8 * fromLast)) & 255);
        }

        void append(long packed, int added) {
            for (int i = added - 1; i >= 0; i--) {
                if (length < PAD_ROOM) {
                    codes[length] = codeIn(packed, i);
                    length++;
                }
            }
        }
    }

    /** Reads a pad as marks, from left to right, and stands at the fault when it stops. */
    private static final class Reader {
        private final Marks drafts = new Marks();
        private int place;

        /** Returns the fault, or NONE; the drafts are of use if there is none. */
        int read(Pad pad) {
            drafts.clear();
            place = 0;
            boolean good = readMark(pad);
            for (int i = 0; i < PAD_ROOM && good && place < pad.length; i++) {
                good = readSign(pad, ',') && readMark(pad);
            }
            return good ? NONE : place;
        }

        private boolean readMark(Pad pad) {
            int ink = digitHere(pad);
            if (!isEditor(ink)) {
                return false;
            }
            place++;
            if (readSign(pad, '-')) {
                return readGaps(pad, ink, STRIKE);
            }
            if (readSign(pad, '=')) {
                return readGaps(pad, ink, REPLACE) && readLetters(pad);
            }
            return readSign(pad, '+') && readOneGap(pad, ink) && readLetters(pad);
        }

        private boolean readSign(Pad pad, char sign) {
            if (pad.at(place) != sign) {
                return false;
            }
            place++;
            return true;
        }

        private boolean readGaps(Pad pad, int ink, int kind) {
            int a = readGap(pad);
            if (a == NONE || !readSign(pad, ':')) {
                return false;
            }
            int b = readGap(pad);
            if (b == NONE) {
                return false;
            }
            drafts.add(ink, kind, a, b);
            return true;
        }

        private boolean readOneGap(Pad pad, int ink) {
            int gap = readGap(pad);
            if (gap == NONE) {
                return false;
            }
            drafts.add(ink, PUT_IN, gap, gap);
            return true;
        }

        /** A digit that the gap cannot have is left: what comes behind a gap is no digit, so the fault is there. */
        private int readGap(Pad pad) {
            int first = digitHere(pad);
            if (first == NONE) {
                return NONE;
            }
            place++;
            int second = digitHere(pad);
            if (first == 0 || second == NONE || first * 10 + second > MOST_LETTERS) {
                return first;
            }
            place++;
            return first * 10 + second;
        }

        /** A seventh letter is left, too: there is a comma or the end behind the letters. */
        private boolean readLetters(Pad pad) {
            int found = 0;
            while (found < MOST_PUT_IN && pad.hasLetterAt(place)) {
                drafts.addLetterToLast(pad.at(place) - 'a');
                place++;
                found++;
            }
            return found > 0;
        }

        private int digitHere(Pad pad) {
            int code = pad.at(place);
            return code >= '0' && code <= '9' ? code - '0' : NONE;
        }
    }
}
