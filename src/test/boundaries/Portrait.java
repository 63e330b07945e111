/**
 * All answers that an object gives, as a text. An object is used for at most 512 calls, so the questions are asked
 * of several objects that were made by the same recipe.
 */
final class Portrait {
    private static final int QUESTIONS_OF_ONE = 250;
    private static final int NONE = -6;

    private final Sentences.Recipe recipe;
    private final StringBuilder answers = new StringBuilder();
    private FiveInks x;
    private int asked = 0;

    Portrait(Sentences.Recipe recipe) {
        this.recipe = recipe;
        this.x = recipe.make();
    }

    private void ask(Sentences.Call question) {
        asked++;
        if (asked % QUESTIONS_OF_ONE == 0) {
            x = recipe.make();
        }
        answers.append(question.on(x)).append(' ');
    }

    private void title(String name) {
        answers.append('\n').append(name).append(": ");
    }

    /** Text, print, marks, ranks, versions and what follows from them; not the pad, the history and the slots. */
    String ofState() {
        title("counts");
        for (int what = 0; what <= 7; what++) {
            int number = what;
            ask(o -> o.count(number));
        }
        marks();
        texts();
        versions();
        title("if judged");
        for (int what = 0; what <= 5; what++) {
            int number = what;
            ask(o -> o.ifJudged(number));
        }
        return answers.toString();
    }

    private void marks() {
        title("marks");
        int marks = recipe.make().count(2);
        for (int mark = 0; mark < marks; mark++) {
            int number = mark;
            for (int what = 0; what <= 7; what++) {
                int about = what;
                ask(o -> o.of(number, about));
            }
            for (int other = 0; other < mark; other++) {
                int second = other;
                ask(o -> o.clash(number, second));
            }
            ask(o -> o.ifAccepted(number, 0));
            ask(o -> o.ifAccepted(number, 1));
        }
    }

    private void texts() {
        for (int of = 0; of <= 1; of++) {
            int which = of;
            title("letters");
            int length = recipe.make().count(which);
            for (int place = 0; place < length; place++) {
                int at = place;
                ask(o -> o.letter(which, at));
            }
        }
        for (int editor = 0; editor < 5; editor++) {
            int number = editor;
            title("editor");
            for (int what = 0; what <= 6; what++) {
                int about = what;
                ask(o -> o.editor(number, about));
            }
            int length = recipe.make().editor(number, 6);
            for (int place = 0; place < length; place++) {
                int at = place;
                ask(o -> o.seen(number, at));
            }
        }
    }

    private void versions() {
        int kept = recipe.make().count(7);
        for (int back = 0; back < kept; back++) {
            int number = back;
            title("version");
            int length = recipe.make().version(number, NONE);
            for (int place = 0; place < length; place++) {
                int at = place;
                ask(o -> o.version(number, at));
            }
            for (int other = 0; other < kept; other++) {
                int second = other;
                ask(o -> o.apart(number, second));
            }
        }
    }

    /** The state, and what undo, the slots and the pad bring out of the object. */
    String ofAll() {
        StringBuilder all = new StringBuilder(ofState());
        FiveInks one = recipe.make();
        all.append("\npad and history: ").append(one.count(8)).append(' ').append(one.fault()).append(' ');
        all.append(one.count(9));
        int changes = one.count(9);
        for (int undone = 1; undone <= changes; undone++) {
            int times = undone;
            all.append("\nundone ").append(times).append(after(o -> undo(o, times)));
        }
        all.append("\nslot 0").append(after(o -> o.restore(0))).append("\nslot 1").append(after(o -> o.restore(1)));
        all.append("\npad as text").append(after(FiveInks::begin));
        all.append("\npad as marks").append(after(FiveInks::mark));
        // A fault hides the rest of the pad from the two calls above; behind a wipe, nothing of it may be left.
        all.append("\nwiped").append(after(o -> o.wipe() + o.count(8)));
        return all.toString();
    }

    private static int undo(FiveInks o, int times) {
        int answer = 0;
        for (int i = 0; i < times; i++) {
            answer = o.undo();
        }
        return answer;
    }

    private String after(Sentences.Call call) {
        int answer = call.on(recipe.make());
        return " " + answer + new Portrait(() -> {
            FiveInks made = recipe.make();
            call.on(made);
            return made;
        }).ofState();
    }
}
