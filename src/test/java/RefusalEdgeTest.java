import java.util.NoSuchElementException;
import java.util.function.Supplier;

/**
 * Each refused call that the document names, by the first number behind each edge and by the greatest and the least
 * there are: which exception it throws, that status() counts it, and that nothing else is changed by it.
 */
public final class RefusalEdgeTest {
    private static final Class<NoSuchElementException> ELEMENT = NoSuchElementException.class;
    private static final Class<IllegalArgumentException> ARGUMENT = IllegalArgumentException.class;
    private static final Class<IllegalStateException> STATE = IllegalStateException.class;

    private static final int LEAST = Integer.MIN_VALUE;
    private static final int GREATEST = Integer.MAX_VALUE;

    /** Calls that underWay() makes at most. */
    private static final int CALLS = 40;

    private final Check check = new Check("refusals");
    private Supplier<SeaMeeting> maker = RefusalEdgeTest::underWay;
    private int ahead = CALLS;

    public static void main(String[] args) {
        RefusalEdgeTest test = new RefusalEdgeTest();
        test.text();
        test.hourOfNoCourse();
        test.hourOfNoHelper();
        test.hourThatCanNotBe();
        test.hourWithoutFuel();
        test.hourTheFirstTold();
        test.hour500();
        test.fuel();
        test.wind();
        test.told();
        test.cell();
        test.blows();
        test.helper();
        test.drift();
        test.cost();
        test.meet();
        test.route();
        test.least();
        test.reach();
        test.most();
        test.relay();
        test.home();
        test.statusCounts();
        test.answersAreNotRefusals();
        test.statusIsNotTakenBack();
        test.check.end();
    }

    /** Two helpers in hour 2, some acts to be taken back, winds by hand, a fault told of, and 60 bytes on the tape. */
    private static SeaMeeting underWay() {
        SeaMeeting sea = Sea.of("sea 5 3;current 0 0 4 2 e;wind s n;drifter 0 0 2;helper 4 2 5;helper 1 2 20;"
                + "port 4 0 n w o;land 2 1;tank 50;");
        sea.wind(3, 7);
        sea.hour(0, 0, 0);
        sea.hour(5, 0, 0);
        sea.wind(560, 2);
        Sea.tell(sea, "sea 9");
        Sea.feed(sea, "sea 3 4;drifter 1 0 0;helper 2 2 8;port 0 3;tank 70;        ");
        return sea;
    }

    private interface Refused {
        long call(SeaMeeting sea);
    }

    private void refuse(Class<? extends RuntimeException> kind, String call, Refused refused) {
        SeaMeeting sea = maker.get();
        check.refused(call, kind, () -> refused.call(sea));
        check.same("status() behind " + call, counted(kind), Sea.statusOf(sea));
        Supplier<SeaMeeting> made = () -> {
            SeaMeeting other = maker.get();
            Check.outcome(() -> refused.call(other));
            return other;
        };
        new Twins(check, "behind " + call, ahead + 1, maker, made).same(true);
    }

    private static String counted(Class<? extends RuntimeException> kind) {
        return kind == ELEMENT ? "1 0 0" : kind == ARGUMENT ? "0 1 0" : "0 0 1";
    }

    private interface With {
        long call(SeaMeeting sea, int number);
    }

    /** One call with each of these numbers. */
    private void refuseEach(Class<? extends RuntimeException> kind, String call, With with, int... numbers) {
        for (int number : numbers) {
            refuse(kind, call + " with " + number, sea -> with.call(sea, number));
        }
    }

    private void text() {
        check.about("n is not 0 to the TAPE's bytes (it stays)");
        refuseEach(ARGUMENT, "text(n) of 60 bytes", (sea, n) -> sea.text(n), -1, 61, 80, 400, 401, LEAST, GREATEST);
        maker = SeaMeeting::new;
        refuseEach(ARGUMENT, "text(n) of an empty tape", (sea, n) -> sea.text(n), -1, 1, 20, 400);
        maker = RefusalEdgeTest::fullTape;
        refuseEach(ARGUMENT, "text(n) of a full tape", (sea, n) -> sea.text(n), -1, 401);
        maker = RefusalEdgeTest::underWay;
    }

    private static SeaMeeting fullTape() {
        SeaMeeting sea = new SeaMeeting();
        Sea.feed(sea, "sea 3 4;drifter 1 0 0;helper 2 2 8;port 0 3;" + " ".repeat(356));
        return sea;
    }

    private void hourOfNoCourse() {
        check.about("a COURSE is none such (0 to 8)");
        refuseEach(ARGUMENT, "hour(n, 0, 0)", (sea, n) -> sea.hour(n, 0, 0), -1, 9, LEAST, GREATEST);
        refuseEach(ARGUMENT, "hour(0, n, 0)", (sea, n) -> sea.hour(0, n, 0), -1, 9, LEAST, GREATEST);
        maker = RefusalEdgeTest::three;
        refuseEach(ARGUMENT, "hour(0, 0, n)", (sea, n) -> sea.hour(0, 0, n), -1, 9, LEAST, GREATEST);
        maker = RefusalEdgeTest::underWay;
    }

    private static SeaMeeting three() {
        return Sea.of("sea 4 4;drifter 1 1 0;helper 0 0 3;helper 1 2 9;helper 2 1 2;port 3 3 s;");
    }

    private void hourOfNoHelper() {
        check.about("of a HELPER that there is not: not 0");
        refuseEach(ARGUMENT, "hour(0, 0, n) of two", (sea, n) -> sea.hour(0, 0, n), -1, 1, 8, 9, LEAST, GREATEST);
        maker = SeaMeeting::new;
        refuseEach(ARGUMENT, "hour(0, n, 0) of one", (sea, n) -> sea.hour(0, n, 0), -1, 1, 8, 9, LEAST, GREATEST);
        refuseEach(ARGUMENT, "hour(0, 0, n) of one", (sea, n) -> sea.hour(0, 0, n), -1, 1, 8, 9);
        refuse(ARGUMENT, "hour(6, 1, 0)", sea -> sea.hour(6, 1, 0));
        maker = RefusalEdgeTest::underWay;
    }

    private void hourThatCanNotBe() {
        check.about("a COURSE can't be");
        refuse(STATE, "hour(3, 0, 0) off the sea", sea -> sea.hour(3, 0, 0));
        refuse(STATE, "hour(0, 2, 0) off the sea", sea -> sea.hour(0, 2, 0));
        maker = () -> Sea.of("sea 3 3;land 1 1;drifter 2 2 0;helper 0 0 9;helper 1 0 9;helper 0 1 9;port 2 0;");
        refuse(STATE, "hour(2, 0, 0) to land", sea -> sea.hour(2, 0, 0));
        refuse(STATE, "hour(0, 1, 0) to land", sea -> sea.hour(0, 1, 0));
        refuse(STATE, "hour(0, 0, 3) to land", sea -> sea.hour(0, 0, 3));
        refuse(STATE, "hour(1, 3, 3): the third one to land", sea -> sea.hour(1, 3, 3));
        refuse(STATE, "hour(7, 0, 0) off the sea to the west", sea -> sea.hour(7, 0, 0));
        refuse(STATE, "hour(0, 5, 0) off the sea to the south", sea -> sea.hour(0, 5, 0));
        maker = RefusalEdgeTest::underWay;
    }

    private void hourWithoutFuel() {
        check.about("there is not FUEL enough");
        maker = () -> Sea.of("sea 4 4;wind o;drifter 3 3 0;helper 1 1 2;helper 2 2 3;helper 1 2 0;port 0 0;");
        for (int course = 1; course <= 8; course++) {
            int other = course;
            refuse(STATE, "hour(" + course + ", 0, 0) with 2 of 3", sea -> sea.hour(other, 0, 0));
        }
        refuse(STATE, "hour(0, 0, 1) with 0 of 3", sea -> sea.hour(0, 0, 1));
        refuse(STATE, "hour(0, 1, 1): the second one has enough", sea -> sea.hour(0, 1, 1));
        maker = () -> Sea.of("sea 4 4;wind n;drifter 3 3 0;helper 1 1 4;helper 2 2 0;port 0 0;");
        refuse(STATE, "hour(5, 0, 0) with 4 of 5", sea -> sea.hour(5, 0, 0));
        refuse(STATE, "hour(0, 1, 0) with 0 of 1", sea -> sea.hour(0, 1, 0));
        maker = RefusalEdgeTest::underWay;
    }

    private void hourTheFirstTold() {
        check.about("Of several exceptions of one call the one told first is thrown (hour)");
        refuse(ARGUMENT, "hour(3, 9, 0)", sea -> sea.hour(3, 9, 0));
        refuse(ARGUMENT, "hour(3, 0, 1)", sea -> sea.hour(3, 0, 1));
        refuse(ARGUMENT, "hour(9, 9, 9)", sea -> sea.hour(9, 9, 9));
    }

    private void hour500() {
        check.about("or HOUR is 500");
        maker = RefusalEdgeTest::inHour500;
        ahead = 500;
        refuse(STATE, "hour(0, 0, 0) in hour 500", sea -> sea.hour(0, 0, 0));
        refuse(STATE, "hour(6, 0, 0) in hour 500", sea -> sea.hour(6, 0, 0));
        refuse(ARGUMENT, "hour(9, 0, 0) in hour 500", sea -> sea.hour(9, 0, 0));
        refuse(ARGUMENT, "hour(0, 1, 0) in hour 500", sea -> sea.hour(0, 1, 0));
        refuse(ARGUMENT, "wind(499, 1) in hour 500", sea -> sea.wind(499, 1));
        ahead = CALLS;
        maker = RefusalEdgeTest::underWay;
    }

    private static SeaMeeting inHour500() {
        SeaMeeting sea = new SeaMeeting();
        for (int i = 0; i < 500; i++) {
            sea.hour(0, 0, 0);
        }
        return sea;
    }

    private void fuel() {
        check.about("FUEL of a HELPER by hand (0 to TANK)");
        refuseEach(ARGUMENT, "fuel(0, n) of a tank of 50", (sea, n) -> sea.fuel(0, n), -1, 51, 999, LEAST, GREATEST);
        refuseEach(ARGUMENT, "fuel(1, n) of a tank of 50", (sea, n) -> sea.fuel(1, n), -1, 51);
        check.about("no such HELPER (fuel)");
        refuseEach(ELEMENT, "fuel(n, 1)", (sea, n) -> sea.fuel(n, 1), -1, 2, 3, LEAST, GREATEST);
        check.about("Of several exceptions of one call the one told first is thrown (fuel)");
        refuse(ELEMENT, "fuel(2, 51)", sea -> sea.fuel(2, 51));
        refuse(ELEMENT, "fuel(-1, -1)", sea -> sea.fuel(-1, -1));
        maker = SeaMeeting::new;
        refuseEach(ARGUMENT, "fuel(0, n) of a new one", (sea, n) -> sea.fuel(0, n), -1, 1000);
        refuseEach(ELEMENT, "fuel(n, 1) of a new one", (sea, n) -> sea.fuel(n, 1), 1, 2);
        maker = RefusalEdgeTest::underWay;
    }

    private void wind() {
        check.about("WIND of an HOUR (now or later, to 560) is put in by hand");
        refuseEach(ARGUMENT, "wind(n, 1) in hour 2", (sea, n) -> sea.wind(n, 1), -1, 0, 1, 561, LEAST, GREATEST);
        refuseEach(ARGUMENT, "wind(2, n)", (sea, n) -> sea.wind(2, n), -1, 9, LEAST, GREATEST);
        refuse(ARGUMENT, "wind(1, 9)", sea -> sea.wind(1, 9));
    }

    private void told() {
        check.about("told: 0 WIDE .. 12 ACTS that can be taken back");
        refuseEach(ARGUMENT, "told", (sea, n) -> sea.told(n), -1, 13, LEAST, GREATEST);
    }

    private void cell() {
        check.about("cell: 0 1 LAND, 1 its CURRENT");
        refuseEach(ARGUMENT, "cell(0, 0, n)", (sea, n) -> sea.cell(0, 0, n), -1, 2, LEAST, GREATEST);
        check.about("IllegalArgumentException: also the CELL (cell)");
        refuseEach(ARGUMENT, "cell(n, 0, 0)", (sea, n) -> sea.cell(n, 0, 0), -1, 5, LEAST, GREATEST);
        refuseEach(ARGUMENT, "cell(0, n, 0)", (sea, n) -> sea.cell(0, n, 0), -1, 3, LEAST, GREATEST);
        refuseEach(ARGUMENT, "cell(4, n, 1)", (sea, n) -> sea.cell(4, n, 1), -1, 3, 4);
    }

    private void blows() {
        check.about("WIND of an HOUR (0 to 560)");
        refuseEach(ARGUMENT, "blows", (sea, n) -> sea.blows(n), -1, 561, LEAST, GREATEST);
    }

    private void helper() {
        check.about("no such HELPER (helper)");
        refuseEach(ELEMENT, "helper(n, 0)", (sea, n) -> sea.helper(n, 0), -1, 2, 3, LEAST, GREATEST);
        check.about("helper: 0 x, 1 y, 2 FUEL, 3 1 it MEETS now");
        refuseEach(ARGUMENT, "helper(1, n)", (sea, n) -> sea.helper(1, n), -1, 4, LEAST, GREATEST);
        check.about("Of several exceptions of one call the one told first is thrown (helper)");
        refuse(ELEMENT, "helper(2, 4)", sea -> sea.helper(2, 4));
    }

    private void drift() {
        check.about("n HOURS from now (0 to 60): 0, 1 x, y of the DRIFTER, 2, 3 of the PORT");
        refuseEach(ARGUMENT, "drift(n, 0)", (sea, n) -> sea.drift(n, 0), -1, 61, LEAST, GREATEST);
        refuseEach(ARGUMENT, "drift(n, 3)", (sea, n) -> sea.drift(n, 3), -1, 61);
        refuseEach(ARGUMENT, "drift(0, n)", (sea, n) -> sea.drift(0, n), -1, 4, LEAST, GREATEST);
    }

    private void cost() {
        check.about("FUEL for a COURSE (1 to 8)");
        refuseEach(ARGUMENT, "cost(n, 0)", (sea, n) -> sea.cost(n, 0), -1, 0, 9, LEAST, GREATEST);
        check.about("n HOURS from now (0 to 59)");
        refuseEach(ARGUMENT, "cost(1, n)", (sea, n) -> sea.cost(1, n), -1, 60, LEAST, GREATEST);
    }

    private void meet() {
        check.about("no such HELPER (meet)");
        refuseEach(ELEMENT, "meet(n, 0)", (sea, n) -> sea.meet(n, 0), -1, 2, 3, LEAST, GREATEST);
        check.about("meet: 0 in how many HOURS, 1 most FUEL left then");
        refuseEach(ARGUMENT, "meet(0, n)", (sea, n) -> sea.meet(0, n), -1, 2, LEAST, GREATEST);
        check.about("Of several exceptions of one call the one told first is thrown (meet)");
        refuse(ELEMENT, "meet(2, 2)", sea -> sea.meet(2, 2));
    }

    private void route() {
        check.about("no such HELPER (route)");
        refuseEach(ELEMENT, "route(n, 0)", (sea, n) -> sea.route(n, 0), -1, 2, 3, LEAST, GREATEST);
        refuse(ELEMENT, "route(2, -1)", sea -> sea.route(2, -1));
    }

    private void least() {
        check.about("no such HELPER (least)");
        refuseEach(ELEMENT, "least(n, 0)", (sea, n) -> sea.least(n, 0), -1, 2, 3, LEAST, GREATEST);
        check.about("LEAST FUEL by n HOURS (0 to 60)");
        refuseEach(ARGUMENT, "least(0, n)", (sea, n) -> sea.least(0, n), -1, 61, LEAST, GREATEST);
        check.about("Of several exceptions of one call the one told first is thrown (least)");
        refuse(ELEMENT, "least(2, 61)", sea -> sea.least(2, 61));
    }

    private void reach() {
        check.about("no such HELPER (reach)");
        refuseEach(ELEMENT, "reach(n, 0)", (sea, n) -> sea.reach(n, 0), -1, 2, 3, LEAST, GREATEST);
        check.about("REACH in n HOURS (0 to 60)");
        refuseEach(ARGUMENT, "reach(0, n)", (sea, n) -> sea.reach(0, n), -1, 61, LEAST, GREATEST);
        check.about("Of several exceptions of one call the one told first is thrown (reach)");
        refuse(ELEMENT, "reach(2, 61)", sea -> sea.reach(2, 61));
    }

    private void most() {
        check.about("no such HELPER (most)");
        refuseEach(ELEMENT, "most(n, 0, 0, 0)", (sea, n) -> sea.most(n, 0, 0, 0), -1, 2, 3, LEAST, GREATEST);
        check.about("The most FUEL that it can have in a CELL in n HOURS (0 to 60)");
        refuseEach(ARGUMENT, "most(0, n, 0, 0)", (sea, n) -> sea.most(0, n, 0, 0), -1, 61, LEAST, GREATEST);
        check.about("IllegalArgumentException: also the CELL (most)");
        refuseEach(ARGUMENT, "most(0, 0, n, 0)", (sea, n) -> sea.most(0, 0, n, 0), -1, 5, LEAST, GREATEST);
        refuseEach(ARGUMENT, "most(0, 0, 0, n)", (sea, n) -> sea.most(0, 0, 0, n), -1, 3, LEAST, GREATEST);
        check.about("Of several exceptions of one call the one told first is thrown (most)");
        refuse(ELEMENT, "most(2, 61, 0, 0)", sea -> sea.most(2, 61, 0, 0));
        refuse(ELEMENT, "most(2, 0, 5, 3)", sea -> sea.most(2, 0, 5, 3));
    }

    private void relay() {
        check.about("no such HELPER (relay)");
        refuseEach(ELEMENT, "relay(0, n)", (sea, n) -> sea.relay(0, n), -1, 2, 3, LEAST, GREATEST);
        refuseEach(ELEMENT, "relay(n, 0)", (sea, n) -> sea.relay(n, 0), -1, 2, 3, LEAST, GREATEST);
        check.about("RELAY of two HELPERS (unlike)");
        refuseEach(ARGUMENT, "relay(n, n)", (sea, n) -> sea.relay(n, n), 0, 1);
        check.about("Of several exceptions of one call the one told first is thrown (relay)");
        refuseEach(ELEMENT, "relay(n, n) of no helper", (sea, n) -> sea.relay(n, n), -1, 2);
    }

    private void home() {
        check.about("no such HELPER (home)");
        refuseEach(ELEMENT, "home(n, 0)", (sea, n) -> sea.home(n, 0), -1, 2, 3, LEAST, GREATEST);
        check.about("HOME: 0 in how many HOURS, 1 the most FUEL left");
        refuseEach(ARGUMENT, "home(0, n)", (sea, n) -> sea.home(0, n), -1, 2, LEAST, GREATEST);
        check.about("Of several exceptions of one call the one told first is thrown (home)");
        refuse(ELEMENT, "home(2, 2)", sea -> sea.home(2, 2));
    }

    private void statusCounts() {
        check.about("How many calls were refused");
        SeaMeeting sea = new SeaMeeting();
        for (int i = 1; i <= 3; i++) {
            int times = i;
            Check.outcome(() -> sea.fuel(1, 0));
            check.due("status(0)", times, () -> sea.status(0));
            Check.outcome(() -> sea.told(13));
            Check.outcome(() -> sea.blows(561));
            check.due("status(1)", 2 * times, () -> sea.status(1));
            for (int k = 0; k < 4; k++) {
                Check.outcome(() -> sea.hour(1, 0, 0));
            }
            check.due("status(2)", 4 * times, () -> sea.status(2));
        }
        check.about("NONE for others (status)");
        for (int what : new int[] {-1, 3, LEAST, GREATEST}) {
            check.due("status(" + what + ")", -1, () -> sea.status(what));
        }
        check.same("status() behind status()", "3 6 12", Sea.statusOf(sea));
    }

    private void answersAreNotRefusals() {
        check.about("How many calls were refused: what answers NONE or a FAULT is not");
        SeaMeeting sea = new SeaMeeting();
        sea.undo();
        sea.text(0);
        sea.route(0, 60);
        sea.status(3);
        for (int i = 0; i < 21; i++) {
            sea.feed(0, 0, 0, 0, 0);
        }
        check.same("status()", "0 0 0", Sea.statusOf(sea));
    }

    private void statusIsNotTakenBack() {
        check.about("a call that throws changes nothing but status(): no ACT that undo() could take back");
        SeaMeeting sea = underWay();
        int kept = sea.told(12);
        Check.outcome(() -> sea.fuel(0, 51));
        Check.outcome(() -> sea.fuel(2, 5));
        Check.outcome(() -> sea.hour(3, 0, 0));
        check.due("undo()", kept - 1, () -> sea.undo());
        check.same("status() behind undo()", "1 1 1", Sea.statusOf(sea));
        Sea.tell(sea, "sea 3 4;drifter 1 0 0;helper 2 2 8;port 0 3;");
        check.same("status() behind text()", "1 1 1", Sea.statusOf(sea));
    }
}
