import java.util.NoSuchElementException;

/** Each promise by inputs of every day, by the edges that the document names, and by wrong inputs. */
public final class PromiseTest {
    private static final Class<NoSuchElementException> ELEMENT = NoSuchElementException.class;
    private static final Class<IllegalArgumentException> ARGUMENT = IllegalArgumentException.class;
    private static final Class<IllegalStateException> STATE = IllegalStateException.class;

    /** A current to the east everywhere, a wind that turns, an island at (2, 1). */
    private static final String STREAM =
            "sea 5 3;current 0 0 4 2 e;wind s n;drifter 0 0 2;helper 4 2 5;port 4 0 n w o;land 2 1;";
    /** Two helpers in still water: the first one has too little fuel, the second one just enough. */
    private static final String STILL = "sea 5 3;drifter 4 0 0;helper 0 0 3;helper 1 0 9;port 4 2;";

    private final Check check = new Check("promises");

    public static void main(String[] args) {
        PromiseTest test = new PromiseTest();
        test.newObject();
        test.feed();
        test.text();
        test.textTellsAllAnew();
        test.fault();
        test.hour();
        test.hourOfThree();
        test.lastHour();
        test.fuel();
        test.wind();
        test.undo();
        test.undoKeepsEight();
        test.toldAndCell();
        test.blows();
        test.helper();
        test.drift();
        test.cost();
        test.meetAndRoute();
        test.routeOfSeveral();
        test.first();
        test.least();
        test.reachAndMost();
        test.relay();
        test.fullSea();
        test.home();
        test.print();
        test.refusedChangesNothing();
        test.askedChangesNothing();
        test.check.end();
    }

    private void newObject() {
        SeaMeeting sea = new SeaMeeting();
        check.row("new told", sea::told, 3, 3, 0, 1, 999, 0, 0, 0, 0, 1, 1, 0, 0);
        check.row("new helper 0", what -> sea.helper(0, what), 2, 2, 10, 0);
        check.row("new cells' currents", at -> sea.cell(at % 3, at / 3, 1), 0, 0, 0, 0, 0, 0, 0, 0, 0);
        check.row("new cells' land", at -> sea.cell(at % 3, at / 3, 0), 0, 0, 0, 0, 0, 0, 0, 0, 0);
        check.row("new status", what -> sea.status(what), 0, 0, 0, -1);
        check.due("new blows(560)", 0, () -> sea.blows(560));
        check.due("new fault()", -1, () -> sea.fault());
        check.due("new print()", 4102, () -> sea.print());
        check.due("new undo()", -1, () -> sea.undo());
    }

    private void feed() {
        SeaMeeting sea = new SeaMeeting();
        for (int i = 1; i <= 20; i++) {
            check.due("feed", 20 * i, () -> sea.feed(0x73656120, 0x3420333b, 0, -1, 0x7fffffff));
        }
        check.due("feed above 400", -1, () -> sea.feed(0x73656120, 0, 0, 0, 0));
        check.due("told(11)", 400, () -> sea.told(11));
        check.due("text(8)", -5, () -> sea.text(8));
        check.due("fault()", 8, () -> sea.fault());
        check.due("told(11)", 0, () -> sea.told(11));
        check.due("feed", 20, () -> sea.feed(0x20202020, 0x20202020, 0x20207365, 0x61203420, 0x333b0000));
        check.due("told(12)", 0, () -> sea.told(12));
        check.due("text(18)", -5, () -> sea.text(18));
        check.due("fault()", 18, () -> sea.fault());
        sea.feed(-1, -1, -1, -1, -1);
        check.due("text(20) of bytes 255", -9, () -> sea.text(20));
        check.due("fault()", 0, () -> sea.fault());
    }

    private void text() {
        SeaMeeting sea = new SeaMeeting();
        check.refused("text(1) of an empty tape", ARGUMENT, () -> sea.text(1));
        Sea.feed(sea, STILL);
        int bytes = sea.told(11);
        check.due("bytes", 60, () -> bytes);
        check.refused("text(-1)", ARGUMENT, () -> sea.text(-1));
        check.refused("text(61)", ARGUMENT, () -> sea.text(61));
        check.due("told(11)", 60, () -> sea.told(11));
        check.due("fault()", -1, () -> sea.fault());
        check.due("text(57)", 2, () -> sea.text(57));
        check.due("told(11)", 0, () -> sea.told(11));
        check.due("text(0)", -9, () -> sea.text(0));
        check.row("told", sea::told, 5, 3, 0, 2, 999, 0, 0, 4, 0, 4, 2, 0, 1);
        Sea.feed(sea, STILL + "boat");
        check.due("text(57) with bytes behind it", 2, () -> sea.text(57));
        check.due("told(11)", 0, () -> sea.told(11));
        check.row("status", sea::status, 0, 3, 0);
    }

    private void textTellsAllAnew() {
        String text = "sea 6 5;land 0 1;current 1 1 2 2 nw;wind n ne e;drifter 5 4 3;helper 3 3 30;helper 3 2 20;"
                + "port 4 4 w;tank 40;";
        String small = "sea 4 4;drifter 1 1 0;helper 2 2 8;port 3 3;";
        SeaMeeting sea = Sea.of(text);
        sea.wind(3, 7);
        sea.wind(500, 8);
        sea.hour(0, 1, 0);
        check.due("told(2)", 1, () -> sea.told(2));
        check.due("text", 1, () -> Sea.tell(sea, small));
        check.same("all told anew", Sea.stateOf(Sea.of(small)), Sea.stateOf(sea));
        check.due("told(12)", 5, () -> sea.told(12));
        check.due("a text with all that is told once", 2, () -> Sea.tell(sea, text));
        check.due("and that again", 2, () -> Sea.tell(sea, text));
        check.same("told again", Sea.stateOf(Sea.of(text)), Sea.stateOf(sea));
        check.due("and that with too little behind it", -5, () -> Sea.tell(sea, "sea 6 5;"));
    }

    private void fault() {
        SeaMeeting sea = new SeaMeeting();
        check.due("fault() ahead of any", -1, () -> sea.fault());
        check.due("text", -9, () -> Sea.tell(sea, "sea 4 3"));
        check.due("fault()", 7, () -> sea.fault());
        check.refused("text(1)", ARGUMENT, () -> sea.text(1));
        check.due("fault() behind a refusal", 7, () -> sea.fault());
        check.due("text", 2, () -> Sea.tell(sea, STILL));
        check.due("fault() without one", -1, () -> sea.fault());
        check.due("text", -5, () -> Sea.tell(sea, "sea 4 3;"));
        check.due("undo()", 0, () -> sea.undo());
        check.due("fault() behind undo()", 8, () -> sea.fault());
    }

    private void hour() {
        SeaMeeting sea = Sea.of(STREAM);
        check.refused("hour(-1, 0, 0)", ARGUMENT, () -> sea.hour(-1, 0, 0));
        check.refused("hour(9, 0, 0)", ARGUMENT, () -> sea.hour(9, 0, 0));
        check.refused("hour(0, 1, 0)", ARGUMENT, () -> sea.hour(0, 1, 0));
        check.refused("hour(0, 0, 8)", ARGUMENT, () -> sea.hour(0, 0, 8));
        check.refused("hour(0, -1, 0)", ARGUMENT, () -> sea.hour(0, -1, 0));
        check.refused("hour(1, 1, 0)", ARGUMENT, () -> sea.hour(1, 1, 0));
        check.refused("hour(1, 0, 0) off the sea", STATE, () -> sea.hour(1, 0, 0));
        check.row("status", sea::status, 0, 6, 1);
        check.due("hour(5, 0, 0) with the wind", 0, () -> sea.hour(5, 0, 0));
        check.row("helper", what -> sea.helper(0, what), 4, 1, 4, 0);
        check.refused("hour(5, 0, 0) without fuel", STATE, () -> sea.hour(5, 0, 0));
        check.due("hour(1, 0, 0)", 0, () -> sea.hour(1, 0, 0));
        check.row("helper", what -> sea.helper(0, what), 4, 2, 3, 0);
        check.due("hour(7, 0, 0): the current carries back", 0, () -> sea.hour(7, 0, 0));
        check.row("helper", what -> sea.helper(0, what), 4, 2, 0, 0);
        check.due("hour(0, 0, 0)", 0, () -> sea.hour(0, 0, 0));
        check.row("told", sea::told, 5, 3, 4, 1, 999, 2, 1, 4, 1, 3, 2, 0, 5);
        check.due("hour(0, 0, 0)", 0, () -> sea.hour(0, 0, 0));
        check.due("hour(0, 0, 0): it meets", 1, () -> sea.hour(0, 0, 0));
        check.due("hour(0, 0, 0): and still", 1, () -> sea.hour(0, 0, 0));
        check.row("helper", what -> sea.helper(0, what), 4, 2, 0, 1);
        SeaMeeting island = Sea.of("sea 3 3;land 1 1;drifter 0 0 0;helper 0 1 9;port 2 2;current 0 0 0 0 ne;");
        check.refused("hour(3, 0, 0) to land", STATE, () -> island.hour(3, 0, 0));
        check.due("hour(0, 0, 0)", 0, () -> island.hour(0, 0, 0));
        check.row("a drifter held by land", island::told, 3, 3, 1, 1, 999, 0, 1, 0, 0);
        check.due("hour(5, 0, 0): nothing is tugged along", 1, () -> island.hour(5, 0, 0));
        check.due("hour(3, 0, 0)", 0, () -> island.hour(3, 0, 0));
        check.row("the drifter stays", island::told, 3, 3, 3, 1, 999, 0, 1, 0, 0);
    }

    private void hourOfThree() {
        SeaMeeting sea = Sea.of("sea 4 4;drifter 1 1 0;helper 0 0 3;helper 1 2 9;helper 2 1 2;port 3 3 s;");
        check.refused("hour(9, 9, 9)", ARGUMENT, () -> sea.hour(9, 9, 9));
        check.refused("hour(0, 0, 9)", ARGUMENT, () -> sea.hour(0, 0, 9));
        check.refused("hour(2, 5, 7): the third has too little", STATE, () -> sea.hour(2, 5, 7));
        check.row("helpers", i -> sea.helper(i, 2), 3, 9, 2);
        check.due("hour(2, 5, 0)", 3, () -> sea.hour(2, 5, 0));
        check.row("helpers", i -> sea.helper(i, 2), 0, 6, 2);
        check.row("helpers meet", i -> sea.helper(i, 3), 1, 1, 0);
        sea.fuel(2, 3);
        check.due("hour(0, 1, 7)", 5, () -> sea.hour(0, 1, 7));
        check.row("told", sea::told, 4, 4, 2, 3, 999, 0, 0, 1, 1, 3, 1, 0, 4);
    }

    private void lastHour() {
        SeaMeeting sea = new SeaMeeting();
        for (int i = 0; i < 500; i++) {
            sea.hour(0, 0, 0);
        }
        check.due("told(2)", 500, () -> sea.told(2));
        check.refused("hour in hour 500", STATE, () -> sea.hour(0, 0, 0));
        check.refused("hour in hour 500", ARGUMENT, () -> sea.hour(0, 1, 0));
        check.refused("wind(499, 1)", ARGUMENT, () -> sea.wind(499, 1));
        check.due("wind(559, 3)", 0, () -> sea.wind(559, 3));
        check.due("cost(3, 59)", 1, () -> sea.cost(3, 59));
        check.due("meet(0, 0)", 2, () -> sea.meet(0, 0));
        check.due("drift(60, 2)", 1, () -> sea.drift(60, 2));
        check.due("undo()", 7, () -> sea.undo());
        check.due("undo()", 6, () -> sea.undo());
        check.due("hour", 0, () -> sea.hour(0, 0, 0));
    }

    private void fuel() {
        SeaMeeting sea = Sea.of(STILL + "tank 7;");
        check.due("fuel(1, 7)", 9, () -> sea.fuel(1, 7));
        check.due("fuel(1, 0)", 7, () -> sea.fuel(1, 0));
        check.due("fuel(0, 3)", 3, () -> sea.fuel(0, 3));
        check.due("told(12)", 4, () -> sea.told(12));
        check.row("helpers", i -> sea.helper(i, 2), 3, 0);
        check.refused("fuel(0, 8)", ARGUMENT, () -> sea.fuel(0, 8));
        check.refused("fuel(0, -1)", ARGUMENT, () -> sea.fuel(0, -1));
        check.refused("fuel(2, 1)", ELEMENT, () -> sea.fuel(2, 1));
        check.refused("fuel(-1, 1)", ELEMENT, () -> sea.fuel(-1, 1));
        check.refused("fuel(2, 8)", ELEMENT, () -> sea.fuel(2, 8));
        check.due("told(12)", 4, () -> sea.told(12));
        check.due("fuel(0, 999) of a new one", 10, () -> new SeaMeeting().fuel(0, 999));
    }

    private void wind() {
        SeaMeeting sea = Sea.of(STREAM);
        check.due("wind(1, 0)", 1, () -> sea.wind(1, 0));
        check.due("wind(1, 8)", 0, () -> sea.wind(1, 8));
        check.due("wind(560, 4)", 5, () -> sea.wind(560, 4));
        check.due("wind(0, 3)", 5, () -> sea.wind(0, 3));
        check.row("blows", sea::blows, 3, 8, 5, 1, 5);
        check.due("blows(560)", 4, () -> sea.blows(560));
        check.due("hour", 0, () -> sea.hour(0, 0, 0));
        check.refused("wind(0, 1) of an hour gone", ARGUMENT, () -> sea.wind(0, 1));
        check.due("blows(0) of an hour gone", 3, () -> sea.blows(0));
        check.due("wind(1, 1) of now", 8, () -> sea.wind(1, 1));
        check.refused("wind(561, 1)", ARGUMENT, () -> sea.wind(561, 1));
        check.refused("wind(-1, 1)", ARGUMENT, () -> sea.wind(-1, 1));
        check.refused("wind(5, 9)", ARGUMENT, () -> sea.wind(5, 9));
        check.refused("wind(5, -1)", ARGUMENT, () -> sea.wind(5, -1));
        check.due("told(12)", 7, () -> sea.told(12));
    }

    private void undo() {
        SeaMeeting sea = new SeaMeeting();
        String[] states = new String[5];
        states[0] = Sea.stateOf(sea);
        sea.wind(2, 3);
        states[1] = Sea.stateOf(sea);
        sea.fuel(0, 77);
        states[2] = Sea.stateOf(sea);
        sea.hour(6, 0, 0);
        check.due("undo() of an hour", 2, () -> sea.undo());
        check.same("the hour taken back", states[2], Sea.stateOf(sea));
        check.due("undo() of fuel", 1, () -> sea.undo());
        check.same("fuel taken back", states[1], Sea.stateOf(sea));
        check.due("undo() of a wind", 0, () -> sea.undo());
        check.same("the wind taken back", states[0], Sea.stateOf(sea));
        check.due("undo() of none", -1, () -> sea.undo());
        SeaMeeting told = Sea.of(STREAM);
        told.hour(5, 0, 0);
        states[3] = Sea.stateOf(told);
        check.due("text", 2, () -> Sea.tell(told, STILL));
        check.due("undo() of a text", 2, () -> told.undo());
        check.same("the text taken back", states[3], Sea.stateOf(told));
        check.due("text with a fault is no act", -9, () -> told.text(0));
        check.due("undo()", 1, () -> told.undo());
        check.same("the hour taken back", Sea.stateOf(Sea.of(STREAM)), Sea.stateOf(told));
        check.due("undo()", 0, () -> told.undo());
        check.same("the first state", states[0], Sea.stateOf(told));
    }

    private void undoKeepsEight() {
        SeaMeeting sea = new SeaMeeting();
        for (int i = 0; i < 11; i++) {
            sea.fuel(0, 20 + i);
        }
        check.due("told(12)", 8, () -> sea.told(12));
        for (int i = 0; i < 8; i++) {
            int left = 7 - i;
            check.due("undo()", left, () -> sea.undo());
            check.due("fuel behind undo()", 22 + left, () -> sea.helper(0, 2));
        }
        check.due("undo() of a ninth", -1, () -> sea.undo());
        check.due("told(12)", 0, () -> sea.told(12));
        check.due("fuel(0, 1)", 22, () -> sea.fuel(0, 1));
        check.due("fuel(0, 2)", 1, () -> sea.fuel(0, 2));
        check.due("undo()", 1, () -> sea.undo());
        check.due("fuel(0, 3)", 1, () -> sea.fuel(0, 3));
        check.due("told(12)", 2, () -> sea.told(12));
        check.due("undo()", 1, () -> sea.undo());
        check.due("undo()", 0, () -> sea.undo());
        check.due("the fuel then", 22, () -> sea.helper(0, 2));
    }

    private void toldAndCell() {
        SeaMeeting sea = Sea.of(STREAM + "land 3 1;tank 50;");
        check.row("told", sea::told, 5, 3, 0, 1, 50, 2, 2, 0, 0, 4, 0, 0, 1);
        check.refused("told(13)", ARGUMENT, () -> sea.told(13));
        check.refused("told(-1)", ARGUMENT, () -> sea.told(-1));
        sea.feed(0, 0, 0, 0, 0);
        check.due("told(11)", 20, () -> sea.told(11));
        check.due("cell(2, 1, 0)", 1, () -> sea.cell(2, 1, 0));
        check.due("cell(2, 1, 1)", 3, () -> sea.cell(2, 1, 1));
        check.due("cell(4, 2, 0)", 0, () -> sea.cell(4, 2, 0));
        check.due("cell(4, 2, 1)", 3, () -> sea.cell(4, 2, 1));
        check.refused("cell(5, 0, 0)", ARGUMENT, () -> sea.cell(5, 0, 0));
        check.refused("cell(0, 3, 0)", ARGUMENT, () -> sea.cell(0, 3, 0));
        check.refused("cell(-1, 1, 0)", ARGUMENT, () -> sea.cell(-1, 1, 0));
        check.refused("cell(0, -1, 0)", ARGUMENT, () -> sea.cell(0, -1, 0));
        check.refused("cell(0, 0, 2)", ARGUMENT, () -> sea.cell(0, 0, 2));
        check.refused("cell(0, 0, -1)", ARGUMENT, () -> sea.cell(0, 0, -1));
    }

    private void blows() {
        SeaMeeting sea = Sea.of("sea 3 3;wind n e o;drifter 0 0 0;helper 1 1 1;port 0 0;");
        check.row("blows", sea::blows, 1, 3, 0, 1, 3, 0, 1);
        check.due("blows(560)", 0, () -> sea.blows(560));
        check.due("blows(559)", 3, () -> sea.blows(559));
        check.refused("blows(561)", ARGUMENT, () -> sea.blows(561));
        check.refused("blows(-1)", ARGUMENT, () -> sea.blows(-1));
    }

    private void helper() {
        SeaMeeting sea = Sea.of("sea 5 4;drifter 3 1 0;helper 4 2 6;helper 3 1 0;port 0 0;");
        check.row("helper 0", what -> sea.helper(0, what), 4, 2, 6, 0);
        check.row("helper 1", what -> sea.helper(1, what), 3, 1, 0, 1);
        check.refused("helper(2, 0)", ELEMENT, () -> sea.helper(2, 0));
        check.refused("helper(-1, 0)", ELEMENT, () -> sea.helper(-1, 0));
        check.refused("helper(2, 4)", ELEMENT, () -> sea.helper(2, 4));
        check.refused("helper(1, 4)", ARGUMENT, () -> sea.helper(1, 4));
        check.refused("helper(1, -1)", ARGUMENT, () -> sea.helper(1, -1));
    }

    private void drift() {
        SeaMeeting sea = Sea.of(STREAM);
        check.row("the drifter's x", n -> sea.drift(n, 0), 0, 1, 2, 3, 4, 4, 4, 4);
        check.row("the drifter's y", n -> sea.drift(n, 1), 0, 0, 0, 0, 1, 1, 2, 2);
        check.row("the port's x", n -> sea.drift(n, 2), 4, 4, 3, 3, 3, 2, 2, 2, 1, 1, 1, 0, 0, 0, 0);
        check.row("the port's y", n -> sea.drift(n, 3), 0, 1, 1, 1, 2, 2, 2, 2, 2, 2, 2, 2, 2, 2, 2);
        check.due("drift(60, 1)", 2, () -> sea.drift(60, 1));
        sea.hour(0, 0, 0);
        check.row("from hour 1 on", n -> sea.drift(n, 0), 1, 2, 3, 4, 4);
        check.row("from hour 1 on", n -> sea.drift(n, 1), 0, 0, 0, 1, 1, 2);
        check.row("from hour 1 on", n -> sea.drift(n, 2), 4, 3, 3, 3, 2);
        sea.wind(3, 5);
        check.due("drift(3, 1) with another wind", 0, () -> sea.drift(3, 1));
        check.refused("drift(61, 0)", ARGUMENT, () -> sea.drift(61, 0));
        check.refused("drift(-1, 0)", ARGUMENT, () -> sea.drift(-1, 0));
        check.refused("drift(0, 4)", ARGUMENT, () -> sea.drift(0, 4));
        check.refused("drift(0, -1)", ARGUMENT, () -> sea.drift(0, -1));
        SeaMeeting each = Sea.of("sea 6 3;wind e;drifter 0 0 1;helper 0 0 0;port 0 1 e;land 2 1;");
        check.row("leeway 1", n -> each.drift(n, 0), 0, 1, 2, 3, 4, 5, 5);
        check.row("a port held by land", n -> each.drift(n, 2), 0, 1, 1, 1);
        SeaMeeting third = Sea.of("sea 6 3;wind e;drifter 0 0 3;helper 0 0 0;port 0 1;");
        check.row("leeway 3", n -> third.drift(n, 0), 0, 0, 0, 1, 1, 1, 2);
        third.hour(0, 0, 0);
        check.row("leeway 3 from hour 1 on", n -> third.drift(n, 0), 0, 0, 1, 1, 1, 2);
        SeaMeeting none = Sea.of("sea 6 3;wind e;drifter 0 0 0;helper 0 0 0;port 0 1;");
        check.due("no leeway", 0, () -> none.drift(60, 0));
        check.due("a port without a row", 0, () -> none.drift(60, 2));
    }

    private void cost() {
        SeaMeeting sea = Sea.of("sea 3 3;wind n o nw;drifter 0 0 0;helper 1 1 1;port 0 0;");
        check.row("wind to the north", course -> sea.cost(course + 1, 0), 1, 2, 3, 4, 5, 4, 3, 2);
        check.row("no wind", course -> sea.cost(course + 1, 1), 3, 3, 3, 3, 3, 3, 3, 3);
        check.row("wind to the north-west", course -> sea.cost(course + 1, 2), 2, 3, 4, 5, 4, 3, 2, 1);
        check.due("cost(1, 59)", 2, () -> sea.cost(1, 59));
        check.refused("cost(1, 60)", ARGUMENT, () -> sea.cost(1, 60));
        check.refused("cost(1, -1)", ARGUMENT, () -> sea.cost(1, -1));
        check.refused("cost(0, 0)", ARGUMENT, () -> sea.cost(0, 0));
        check.refused("cost(9, 0)", ARGUMENT, () -> sea.cost(9, 0));
        sea.hour(0, 0, 0);
        check.row("from hour 1 on", n -> sea.cost(1, n), 3, 2, 1, 3);
        sea.wind(2, 5);
        check.due("with a wind by hand", 5, () -> sea.cost(1, 1));
    }

    private void meetAndRoute() {
        SeaMeeting sea = Sea.of(STREAM);
        check.row("meet", what -> sea.meet(0, what), 4, 4);
        check.row("route", k -> sea.route(0, k), 0, 0, 5, 0, -1, -1);
        check.due("route(0, -1)", -1, () -> sea.route(0, -1));
        check.due("route(0, least of all)", -1, () -> sea.route(0, Integer.MIN_VALUE));
        check.due("route(0, greatest of all)", -1, () -> sea.route(0, Integer.MAX_VALUE));
        sea.fuel(0, 0);
        check.row("meet without fuel", what -> sea.meet(0, what), 6, 0);
        check.row("route without fuel", k -> sea.route(0, k), 0, 0, 0, 0, 0, 0, -1);
        SeaMeeting still = Sea.of(STILL);
        check.row("meet never", what -> still.meet(0, what), -1, -1);
        check.row("route never", k -> still.route(0, k), -1);
        check.row("meet", what -> still.meet(1, what), 3, 0);
        check.row("route: the least first", k -> still.route(1, k), 2, 3, 4, -1);
        SeaMeeting there = Sea.of("sea 3 3;drifter 1 1 0;helper 1 1 4;port 0 0;");
        check.row("meet now", what -> there.meet(0, what), 0, 4);
        check.row("route now", k -> there.route(0, k), -1);
        check.refused("meet(0, 2)", ARGUMENT, () -> sea.meet(0, 2));
        check.refused("meet(0, -1)", ARGUMENT, () -> sea.meet(0, -1));
        check.refused("meet(1, 0)", ELEMENT, () -> sea.meet(1, 0));
        check.refused("meet(1, 2)", ELEMENT, () -> sea.meet(1, 2));
        check.refused("route(1, 0)", ELEMENT, () -> sea.route(1, 0));
        check.refused("route(-1, 0)", ELEMENT, () -> sea.route(-1, 0));
        SeaMeeting late = Sea.of("sea 3 3;wind" + " o".repeat(19) + " e;drifter 0 0 2;helper 2 0 2;port 0 0;");
        check.row("meet in 40 hours", what -> late.meet(0, what), 40, 2);
        check.row("meet in 60 hours", what -> sixty(0).meet(0, what), 60, 0);
        check.row("route of 60 hours", k -> sixty(0).route(0, 58 + k), 0, 0, -1);
        check.row("in 61 hours is never", what -> sixty(1).meet(0, what), -1, -1);
    }

    /** A drifter that the wind brings to the helper in 60 hours, or later. */
    private SeaMeeting sixty(int late) {
        SeaMeeting sea = Sea.of("sea 3 3;drifter 0 0 1;helper 1 0 0;port 0 0;");
        sea.wind(59 + late, 3);
        return sea;
    }

    private void routeOfSeveral() {
        SeaMeeting sea = Sea.of("sea 5 5;drifter 4 2 0;helper 2 2 99;port 0 0;");
        check.row("by the north first", k -> sea.route(0, k), 2, 4, -1);
        sea.wind(0, 4);
        check.row("by the cheapest", k -> sea.route(0, k), 4, 2, -1);
        check.row("most fuel left", what -> sea.meet(0, what), 2, 95);
        sea.wind(1, 3);
        check.row("of the cheapest the first row", k -> sea.route(0, k), 3, 3, -1);
        check.row("most fuel left", what -> sea.meet(0, what), 2, 96);
        sea.hour(4, 0, 0);
        check.row("the rest of it", k -> sea.route(0, k), 2, -1);
        check.row("with what is left", what -> sea.meet(0, what), 1, 96);
    }

    private void first() {
        SeaMeeting sea = Sea.of("sea 5 3;drifter 2 1 0;helper 0 1 20;helper 4 1 50;helper 3 1 2;port 0 0;");
        check.due("first(): of several the least", 0, () -> sea.first());
        sea.fuel(2, 3);
        check.due("first(): the nearest", 2, () -> sea.first());
        sea.fuel(2, 0);
        sea.fuel(0, 5);
        check.due("first(): the only one", 1, () -> sea.first());
        sea.fuel(1, 5);
        check.due("first(): none", -1, () -> sea.first());
        check.due("first() in 60 hours", 0, () -> sixty(0).first());
        check.due("first() in 61 hours", -1, () -> sixty(1).first());
        SeaMeeting now = Sea.of("sea 5 3;drifter 2 1 0;helper 2 0 20;helper 2 1 0;port 0 0;");
        check.due("first() now", 1, () -> now.first());
    }

    private void least() {
        SeaMeeting sea = Sea.of(STREAM);
        check.row("least", n -> sea.least(0, n), -1, -1, -1, -1, 1, 1, 0, 0);
        check.due("least(0, 60)", 0, () -> sea.least(0, 60));
        sea.fuel(0, 0);
        check.due("least(0, 4) as if it had so much", 1, () -> sea.least(0, 4));
        SeaMeeting still = Sea.of(STILL + "tank 9;");
        check.row("least of 0", n -> still.least(0, n), -1, -1, -1, -1, 12, 12);
        check.row("least of 1", n -> still.least(1, n), -1, -1, -1, 9, 9);
        SeaMeeting there = Sea.of("sea 3 3;drifter 1 1 0;helper 1 1 0;port 0 0;");
        check.row("least now", n -> there.least(0, n), 0, 0);
        SeaMeeting apart = Sea.of("sea 3 3;drifter 0 0 0;helper 2 2 99;port 0 0;land 0 1;land 1 1;land 1 0;");
        check.due("least by none", -1, () -> apart.least(0, 60));
        check.due("least of a new one", 6, () -> new SeaMeeting().least(0, 2));
        check.due("least by 59 hours", 3, () -> sixty(0).least(0, 59));
        check.due("least by 60 hours", 0, () -> sixty(0).least(0, 60));
        check.refused("least(0, 61)", ARGUMENT, () -> sea.least(0, 61));
        check.refused("least(0, -1)", ARGUMENT, () -> sea.least(0, -1));
        check.refused("least(1, 0)", ELEMENT, () -> sea.least(1, 0));
        check.refused("least(1, 61)", ELEMENT, () -> sea.least(1, 61));
    }

    private void reachAndMost() {
        SeaMeeting sea = Sea.of(STREAM);
        check.row("reach", n -> sea.reach(0, n), 1, 2);
        check.row("most in 1", y -> sea.most(0, 1, 4, y), -1, 4, 5);
        check.row("most in 0", y -> sea.most(0, 0, 4, y), -1, -1, 5);
        check.due("most on land", -1, () -> sea.most(0, 60, 2, 1));
        SeaMeeting still = Sea.of(STILL);
        check.row("reach of 0", n -> still.reach(0, n), 1, 4, 4, 4);
        check.row("reach of 1", n -> still.reach(1, n), 1, 6, 12, 15);
        check.row("most of 1 in 2", x -> still.most(1, 2, x, 0), 6, 9, 6, 3, -1);
        check.due("most(1, 60, 4, 2)", 0, () -> still.most(1, 60, 4, 2));
        check.due("reach(1, 60)", 15, () -> still.reach(1, 60));
        check.refused("reach(0, 61)", ARGUMENT, () -> still.reach(0, 61));
        check.refused("reach(0, -1)", ARGUMENT, () -> still.reach(0, -1));
        check.refused("reach(2, 0)", ELEMENT, () -> still.reach(2, 0));
        check.refused("reach(2, 61)", ELEMENT, () -> still.reach(2, 61));
        check.refused("most(0, 61, 0, 0)", ARGUMENT, () -> still.most(0, 61, 0, 0));
        check.refused("most(0, -1, 0, 0)", ARGUMENT, () -> still.most(0, -1, 0, 0));
        check.refused("most(0, 0, 5, 0)", ARGUMENT, () -> still.most(0, 0, 5, 0));
        check.refused("most(0, 0, 0, 3)", ARGUMENT, () -> still.most(0, 0, 0, 3));
        check.refused("most(0, 0, -1, 0)", ARGUMENT, () -> still.most(0, 0, -1, 0));
        check.refused("most(0, 0, 0, -1)", ARGUMENT, () -> still.most(0, 0, 0, -1));
        check.refused("most(2, 61, 9, 9)", ELEMENT, () -> still.most(2, 61, 9, 9));
    }

    private void relay() {
        SeaMeeting sea = Sea.of(STILL);
        check.due("relay(0, 1)", 4, () -> sea.relay(0, 1));
        check.due("relay(1, 0)", 4, () -> sea.relay(1, 0));
        check.refused("relay(1, 1)", ARGUMENT, () -> sea.relay(1, 1));
        check.refused("relay(0, 2)", ELEMENT, () -> sea.relay(0, 2));
        check.refused("relay(2, 0)", ELEMENT, () -> sea.relay(2, 0));
        check.refused("relay(2, 2)", ELEMENT, () -> sea.relay(2, 2));
        check.refused("relay(0, -1)", ELEMENT, () -> sea.relay(0, -1));
        SeaMeeting tank = Sea.of(STILL + "tank 8;");
        check.due("relay with a small tank", -1, () -> tank.relay(0, 1));
        SeaMeeting now = Sea.of("sea 5 3;drifter 4 0 0;helper 0 0 3;helper 0 0 9;port 4 2;");
        check.due("relay: given now", 4, () -> now.relay(0, 1));
        now.fuel(1, 8);
        check.due("relay: too little", -1, () -> now.relay(0, 1));
        SeaMeeting there = Sea.of("sea 5 3;drifter 4 0 0;helper 4 0 0;helper 4 0 0;helper 3 0 3;port 4 2;");
        check.due("relay: now and there", 0, () -> there.relay(0, 1));
        check.due("relay: at the hour of giving", 1, () -> there.relay(0, 2));
        there.fuel(2, 2);
        check.due("relay: never in one cell", -1, () -> there.relay(0, 2));
        check.due("relay in 60 hours", 60, () -> relayLater(59));
        check.due("relay in 61 hours", -1, () -> relayLater(60));
        SeaMeeting capped = Sea.of("sea 5 3;drifter 2 0 0;helper 0 0 9;helper 0 0 1;port 0 0;tank 5;");
        check.due("meet with more than the tank", 2, () -> capped.meet(0, 0));
        check.due("relay: the tank at most", -1, () -> capped.relay(0, 1));
    }

    private int relayLater(int hour) {
        SeaMeeting sea = Sea.of("sea 5 3;drifter 1 0 0;helper 0 0 1;helper 0 0 0;port 0 0;");
        sea.wind(hour, 3);
        return sea.relay(0, 1);
    }

    private void fullSea() {
        SeaMeeting sea = Sea.of("sea 20 12;drifter 19 11 0;helper 0 0 57;helper 19 11 57;port 0 11;");
        check.row("meet across", what -> sea.meet(0, what), 19, 0);
        check.row("reach", n -> sea.reach(0, n), 1, 4, 9, 16);
        check.due("reach(0, 11)", 144, () -> sea.reach(0, 11));
        check.due("reach(0, 18)", 19 * 12, () -> sea.reach(0, 18));
        check.due("reach(0, 60)", 240, () -> sea.reach(0, 60));
        check.due("most(0, 60, 19, 11)", 0, () -> sea.most(0, 60, 19, 11));
        check.row("reach from the corner", n -> sea.reach(1, n), 1, 4, 9, 16);
        check.due("least(0, 60)", 57, () -> sea.least(0, 60));
        check.due("relay(1, 0)", 19, () -> sea.relay(1, 0));
        sea.fuel(1, 999);
        check.row("home across", what -> sea.home(1, what), 19, 999 - 6 * 19);
        check.row("route across", k -> sea.route(0, k), 2, 2, 2, 2, 2, 2, 2, 2, 2, 2, 2, 3, 3, 3, 3, 3, 3, 3, 3, -1);
    }

    private void home() {
        SeaMeeting sea = new SeaMeeting();
        check.row("home without fuel for it", what -> sea.home(0, what), -1, -1);
        sea.fuel(0, 12);
        check.row("home", what -> sea.home(0, what), 3, 0);
        sea.wind(2, 3);
        check.row("home with the wind nearly behind", what -> sea.home(0, what), 3, 2);
        sea.wind(2, 6);
        check.row("home later, with the wind ahead now", what -> sea.home(0, what), 4, 0);
        SeaMeeting stream = Sea.of(STREAM);
        check.row("home is out of reach", what -> stream.home(0, what), -1, -1);
        SeaMeeting still = Sea.of(STILL);
        check.row("home without a meeting", what -> still.home(0, what), -1, -1);
        SeaMeeting comes = Sea.of("sea 5 3;drifter 4 0 0;helper 4 1 3;port 0 0 e;");
        check.row("a port that comes", what -> comes.home(0, what), 4, 0);
        SeaMeeting there = Sea.of("sea 5 3;drifter 4 0 0;helper 4 1 7;port 4 0;");
        check.row("a port where they meet", what -> there.home(0, what), 1, 4);
        SeaMeeting tide = Sea.of("sea 5 3;current 0 0 4 0 w;drifter 4 0 0;helper 4 0 5;port 0 0;");
        check.row("towed by the current", what -> tide.home(0, what), 4, 5);
        SeaMeeting slow = Sea.of("sea 6 3;drifter 5 0 0;helper 5 0 5;port 0 0" + " o".repeat(11) + " e;");
        check.row("a port that comes in the last hour", what -> slow.home(0, what), 60, 5);
        check.row("home in the last hour", what -> waiting(59).home(0, what), 60, 0);
        check.row("home behind the last hour", what -> waiting(60).home(0, what), -1, -1);
        check.refused("home(0, 2)", ARGUMENT, () -> sea.home(0, 2));
        check.refused("home(0, -1)", ARGUMENT, () -> sea.home(0, -1));
        check.refused("home(1, 0)", ELEMENT, () -> sea.home(1, 0));
        check.refused("home(1, 2)", ELEMENT, () -> sea.home(1, 2));
    }

    /** A tow that has fuel enough for one course only with the wind of this hour. */
    private SeaMeeting waiting(int hour) {
        SeaMeeting sea = Sea.of("sea 3 3;drifter 0 0 0;helper 0 0 2;port 1 0;");
        sea.wind(hour, 3);
        return sea;
    }

    private void print() {
        SeaMeeting sea = Sea.of("sea 5 4;drifter 3 1 0;helper 4 2 6;helper 3 1 0;port 1 3;");
        long due = 31L * 8 + 16;
        due = 31 * (31 * due + 14) + 6;
        due = 31 * (31 * due + 8);
        long want = due;
        check.due("print()", want, () -> sea.print());
        SeaMeeting three = Sea.of("sea 20 12;drifter 19 11 0;port 19 11;" + "helper 19 11 999;".repeat(3));
        long sum = 239L * 31 + 239;
        for (int i = 0; i < 3; i++) {
            sum = (sum * 31 + 239) * 31 + 999;
        }
        long most = sum;
        check.due("print()", most, () -> three.print());
    }

    private interface Refused {
        void call(SeaMeeting sea);
    }

    private void refusedChangesNothing() {
        Refused[] calls = {
            sea -> sea.text(21), sea -> sea.text(-1), sea -> sea.hour(9, 0, 0), sea -> sea.hour(0, 0, 1),
            sea -> sea.hour(1, 0, 0), sea -> sea.hour(5, 7, 0), sea -> sea.fuel(2, 1), sea -> sea.fuel(0, 51),
            sea -> sea.wind(0, 1), sea -> sea.wind(3, 9), sea -> sea.told(13), sea -> sea.cell(9, 0, 0),
            sea -> sea.blows(561), sea -> sea.helper(2, 0), sea -> sea.helper(0, 4), sea -> sea.drift(61, 0),
            sea -> sea.cost(0, 0), sea -> sea.meet(2, 0), sea -> sea.meet(0, 2), sea -> sea.route(2, 0),
            sea -> sea.least(2, 0), sea -> sea.least(0, 61), sea -> sea.reach(2, 0), sea -> sea.reach(0, 61),
            sea -> sea.most(2, 0, 0, 0), sea -> sea.most(0, 0, 9, 0), sea -> sea.relay(0, 2), sea -> sea.relay(0, 0),
            sea -> sea.home(2, 0), sea -> sea.home(0, 2)
        };
        String due = "AAAASSEAAAAAAEAAAEAEEAEAEAEAEA";
        for (int i = 0; i < calls.length; i++) {
            SeaMeeting sea = Sea.of(STREAM + "helper 1 2 0;tank 50;");
            sea.hour(0, 0, 0);
            Sea.tell(sea, "sea 9");
            sea.feed(1, 2, 3, 4, 5);
            String before = Sea.shown(sea);
            int at = i;
            char kind = due.charAt(i);
            Class<? extends RuntimeException> want = kind == 'E' ? ELEMENT : kind == 'A' ? ARGUMENT : STATE;
            check.refused("refusal " + i, want, () -> {
                calls[at].call(sea);
                return 0;
            });
            check.same("what refusal " + i + " left", before, Sea.shown(sea));
            String counted = kind == 'E' ? "1 0 0" : kind == 'A' ? "0 1 0" : "0 0 1";
            check.same("status behind refusal " + i, counted, Sea.statusOf(sea));
            check.due("undo()", 1, () -> sea.undo());
            check.same("status behind undo()", counted, Sea.statusOf(sea));
            check.due("status(3)", -1, () -> sea.status(3));
            check.due("status(-1)", -1, () -> sea.status(-1));
        }
    }

    private void askedChangesNothing() {
        SeaMeeting sea = Sea.of(STREAM + "helper 1 2 0;tank 50;");
        String before = Sea.shown(sea);
        sea.relay(0, 1);
        sea.relay(1, 0);
        sea.home(0, 0);
        sea.least(1, 60);
        sea.most(1, 30, 4, 1);
        sea.route(1, 3);
        sea.status(0);
        check.same("what asking left", before, Sea.shown(sea));
        check.same("status behind asking", "0 0 0", Sea.statusOf(sea));
    }
}
