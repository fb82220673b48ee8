import java.util.ArrayList;
import java.util.List;
import java.util.function.Supplier;

/**
 * Two objects that must show the same, asked everything that can be asked. An object answers 512 calls, so as many
 * pairs are made as all the questions need.
 */
final class Twins {
    private static final int MOST_CALLS = 512;
    private static final int STATE_CALLS = 200;

    private interface Ask {
        long of(SeaMeeting sea);
    }

    private record Question(String name, Ask ask) {
    }

    private final Check check;
    private final String name;
    private final int ahead;
    private final Supplier<SeaMeeting> due;
    private final Supplier<SeaMeeting> made;
    private final List<Question> questions = new ArrayList<>();

    /** Both objects come with at most so many calls already made. */
    Twins(Check check, String name, int ahead, Supplier<SeaMeeting> due, Supplier<SeaMeeting> made) {
        this.check = check;
        this.name = name;
        this.ahead = ahead;
        this.due = due;
        this.made = made;
    }

    /** All but status(); fault() too, if it is asked for. */
    void same(boolean faultToo) {
        gather(due.get(), faultToo);
        int room = MOST_CALLS - ahead;
        for (int from = 0; from < questions.size(); from += room) {
            askBoth(from, Math.min(questions.size(), from + room));
        }
        for (int undone = 1; undone <= 9; undone++) {
            check.same(name + ": undone " + undone, behindUndo(due.get(), undone), behindUndo(made.get(), undone));
        }
        check.same(name + ": the tape told", behindText(due.get()), behindText(made.get()));
    }

    private void askBoth(int from, int to) {
        SeaMeeting left = due.get();
        SeaMeeting right = made.get();
        for (Question question : questions.subList(from, to)) {
            String want = Check.outcome(() -> question.ask().of(left));
            String got = Check.outcome(() -> question.ask().of(right));
            check.same(name + ": " + question.name(), want, got);
        }
    }

    private String behindUndo(SeaMeeting sea, int undone) {
        StringBuilder all = new StringBuilder();
        for (int i = 0; i < undone; i++) {
            all.append(sea.undo()).append(' ');
        }
        boolean wholly = ahead + undone + STATE_CALLS <= MOST_CALLS;
        return all.append(wholly ? Sea.stateOf(sea) : sea.print() + " " + sea.told(2)).toString();
    }

    /** What the bytes of the tape tell, so these must be the same, too. */
    private String behindText(SeaMeeting sea) {
        String answer = sea.text(sea.told(11)) + " " + sea.fault() + " " + sea.told(11) + " " + sea.told(12) + " ";
        boolean wholly = ahead + STATE_CALLS <= MOST_CALLS;
        return answer + (wholly ? Sea.stateOf(sea) : sea.print());
    }

    private void gather(SeaMeeting sea, boolean faultToo) {
        int wide = sea.told(0);
        int high = sea.told(1);
        int helpers = sea.told(3);
        add("told(12)", 13, (object, what) -> object.told(what));
        ask("print()", object -> object.print());
        ask("first()", object -> object.first());
        if (faultToo) {
            ask("fault()", object -> object.fault());
        }
        add("cell", wide * high * 2, (object, at) -> object.cell(at / 2 % wide, at / 2 / wide, at % 2));
        add("blows", 561, (object, hour) -> object.blows(hour));
        add("drift", 61 * 4, (object, at) -> object.drift(at / 4, at % 4));
        add("cost", 60 * 8, (object, at) -> object.cost(1 + at % 8, at / 8));
        for (int i = 0; i < helpers; i++) {
            gatherHelper(i, wide, high, helpers);
        }
    }

    private void gatherHelper(int helper, int wide, int high, int helpers) {
        int[] hours = {0, 1, 2, 5, 60};
        add("helper " + helper, 4, (object, what) -> object.helper(helper, what));
        add("meet " + helper, 2, (object, what) -> object.meet(helper, what));
        add("home " + helper, 2, (object, what) -> object.home(helper, what));
        add("route " + helper, 61, (object, k) -> object.route(helper, k));
        add("least " + helper, 61, (object, n) -> object.least(helper, n));
        add("reach " + helper, 61, (object, n) -> object.reach(helper, n));
        for (int n : hours) {
            add("most " + helper + " in " + n, wide * high,
                    (object, at) -> object.most(helper, n, at % wide, at / wide));
        }
        for (int other = 0; other < helpers; other++) {
            int giver = other;
            ask("relay " + helper + " " + other, object -> object.relay(helper, giver));
        }
    }

    private interface Numbered {
        long of(SeaMeeting sea, int n);
    }

    private void add(String call, int count, Numbered numbered) {
        for (int i = 0; i < count; i++) {
            int n = i;
            ask(call + " of " + i, object -> numbered.of(object, n));
        }
    }

    private void ask(String call, Ask ask) {
        questions.add(new Question(call, ask));
    }
}
