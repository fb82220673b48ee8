/** Promises 5 to 24: each sentence that names a boundary case, by a test of its own; refusals have RefusalEdgeTest. */
public final class PromiseEdgeTest {
    /** Two helpers in still water, the first one with too little fuel, a third one in the drifter's cell. */
    private static final String STILL = "sea 6 4;drifter 4 1 0;helper 0 1 11;helper 1 1 9;helper 4 1 2;port 5 3;";

    private final Check check = new Check("edges");

    public static void main(String[] args) {
        PromiseEdgeTest test = new PromiseEdgeTest();
        test.hourBits();
        test.hourOfLessThanThree();
        test.hourAtOnce();
        test.fuelToTank();
        test.fuelAboveTank();
        test.windNowOrLater();
        test.undoNone();
        test.told();
        test.toldLand();
        test.toldTape();
        test.cell();
        test.blowsToTheLast();
        test.helper();
        test.driftNow();
        test.driftToTheLast();
        test.costNow();
        test.costToTheLast();
        test.meetNever();
        test.meetMostFuel();
        test.routeHasNotSoMany();
        test.firstOfSeveral();
        test.firstNone();
        test.leastNow();
        test.leastNone();
        test.leastOrLess();
        test.reachNow();
        test.reachThen();
        test.mostNow();
        test.mostCanNotBe();
        test.mostOfSeveral();
        test.relayNever();
        test.homeNever();
        test.homeNow();
        test.print();
        test.printGreatest();
        test.aheadFromHour500();
        test.check.end();
    }

    private static SeaMeeting sixty(int late) {
        SeaMeeting sea = Sea.of("sea 3 3;drifter 0 0 1;helper 1 0 0;port 1 0;");
        sea.wind(59 + late, 3);
        return sea;
    }

    private void hourBits() {
        check.about("HELPERS that MEET then, as bits");
        for (int meeting = 0; meeting < 8; meeting++) {
            StringBuilder text = new StringBuilder("sea 3 3;drifter 1 1 0;port 0 0;");
            for (int i = 0; i < 3; i++) {
                text.append((meeting >> i & 1) == 1 ? "helper 1 1 0;" : "helper 1 2 0;");
            }
            SeaMeeting sea = Sea.of(text.toString());
            check.due("hour(0, 0, 0) with " + meeting, meeting, () -> sea.hour(0, 0, 0));
        }
        SeaMeeting two = Sea.of("sea 3 3;drifter 1 1 0;port 0 0;helper 0 0 3;helper 2 2 3;");
        check.due("hour(2, 6, 0)", 3, () -> two.hour(2, 6, 0));
        check.due("hour(0, 0, 0)", 3, () -> two.hour(0, 0, 0));
        check.due("a helper in the port's cell is no one's meeting", 0, () -> Sea.of("sea 3 3;drifter 1 1 0;"
                + "port 0 0;helper 0 0 3;").hour(0, 0, 0));
    }

    private void hourOfLessThanThree() {
        check.about("COURSES of HELPERS 0, 1, 2 (0 for such as there are not)");
        SeaMeeting one = Sea.of("sea 4 4;drifter 0 0 0;port 0 0;helper 1 1 24;");
        SeaMeeting two = Sea.of("sea 4 4;drifter 0 0 0;port 0 0;helper 1 1 24;helper 1 1 24;");
        SeaMeeting three = Sea.of("sea 4 4;drifter 0 0 0;port 0 0;helper 1 1 24;helper 1 1 24;helper 1 1 24;");
        check.due("hour(1, 0, 0) of one", 0, () -> one.hour(1, 0, 0));
        check.due("hour(1, 3, 0) of two", 0, () -> two.hour(1, 3, 0));
        check.due("hour(1, 3, 2) of three", 0, () -> three.hour(1, 3, 2));
        check.due("y of 0", 2, () -> one.helper(0, 1));
        check.row("x of two", i -> two.helper(i, 0), 1, 2);
        check.row("x of three", i -> three.helper(i, 0), 1, 2, 2);
        check.row("y of three", i -> three.helper(i, 1), 2, 1, 2);
        check.due("hour(8, 8, 8): the last course", 0, () -> three.hour(8, 8, 8));
        check.row("x of three", i -> three.helper(i, 0), 0, 1, 1);
        check.row("y of three", i -> three.helper(i, 1), 3, 2, 3);
    }

    private void hourAtOnce() {
        check.about("An HOUR goes by COURSES: the WIND and the place of the PORT's row are those of t");
        SeaMeeting sea = Sea.of("sea 5 5;wind n s;drifter 1 1 1;port 2 2 e w;helper 4 0 9;");
        check.due("hour(1, 0, 0)", 0, () -> sea.hour(1, 0, 0));
        check.row("told", sea::told, 5, 5, 1, 1, 999, 1, 0, 1, 2, 3, 2, 0, 2);
        check.row("helper 0", what -> sea.helper(0, what), 4, 1, 8, 0);
        check.due("hour(1, 0, 0)", 0, () -> sea.hour(1, 0, 0));
        check.row("told", sea::told, 5, 5, 2, 1, 999, 1, 0, 1, 1, 2, 2, 0, 3);
        check.row("helper 0", what -> sea.helper(0, what), 4, 2, 3, 0);
    }

    private void fuelToTank() {
        check.about("FUEL of a HELPER by hand (0 to TANK): what it was");
        SeaMeeting sea = Sea.of(STILL + "tank 50;");
        check.due("fuel(0, 0)", 11, () -> sea.fuel(0, 0));
        check.due("fuel(0, 50)", 0, () -> sea.fuel(0, 50));
        check.due("fuel(0, 49)", 50, () -> sea.fuel(0, 49));
        check.due("fuel(2, 50)", 2, () -> sea.fuel(2, 50));
        check.row("fuel", i -> sea.helper(i, 2), 49, 9, 50);
        SeaMeeting fresh = new SeaMeeting();
        check.due("fuel(0, 999) of a new one", 10, () -> fresh.fuel(0, 999));
        check.due("fuel(0, 0) of a new one", 999, () -> fresh.fuel(0, 0));
    }

    private void fuelAboveTank() {
        check.about("FUEL above TANK stays until it is put in by hand");
        SeaMeeting sea = Sea.of("sea 4 4;drifter 0 0 0;port 0 0;helper 1 1 60;tank 50;");
        check.due("hour(3, 0, 0)", 0, () -> sea.hour(3, 0, 0));
        check.due("fuel(0, 50): what it was", 57, () -> sea.fuel(0, 50));
        check.due("fuel(0, 0)", 50, () -> sea.fuel(0, 0));
    }

    private void windNowOrLater() {
        check.about("WIND of an HOUR (now or later, to 560) is put in by hand: what it was");
        SeaMeeting sea = Sea.of("sea 3 3;wind n e;drifter 0 0 0;port 0 0;helper 1 1 0;");
        check.due("wind(0, 8) in hour 0", 1, () -> sea.wind(0, 8));
        check.due("wind(0, 0) in hour 0", 8, () -> sea.wind(0, 0));
        check.due("wind(0, 1) in hour 0", 0, () -> sea.wind(0, 1));
        check.due("wind(560, 5)", 1, () -> sea.wind(560, 5));
        check.due("wind(560, 6)", 5, () -> sea.wind(560, 6));
        check.due("wind(559, 2)", 3, () -> sea.wind(559, 2));
        sea.hour(0, 0, 0);
        check.due("wind(1, 7) in hour 1", 3, () -> sea.wind(1, 7));
        check.row("blows", sea::blows, 1, 7, 1, 3);
        check.row("blows from 558 on", i -> sea.blows(558 + i), 1, 2, 6);
        check.row("what it was without a row", i -> new SeaMeeting().wind(i * 560, 3), 0, 0);
    }

    private void undoNone() {
        check.about("How many ACTS still can be taken back behind it; NONE: none could");
        SeaMeeting sea = new SeaMeeting();
        check.row("undo() of a new one", i -> sea.undo(), -1, -1);
        check.due("print() behind it", 4102, () -> sea.print());
        sea.fuel(0, 5);
        sea.wind(0, 1);
        check.row("undo()", i -> sea.undo(), 1, 0, -1, -1);
        check.due("told(12)", 0, () -> sea.told(12));
        check.same("status()", "0 0 0", Sea.statusOf(sea));
    }

    private void told() {
        check.about("told: 0 WIDE, 1 HIGH .. 12 ACTS that can be taken back");
        SeaMeeting sea = Sea.of("sea 20 12;land 19 11;land 0 11;land 3 4;drifter 19 10 9;helper 5 6 7;helper 5 6 8;"
                + "port 18 11;tank 998;");
        sea.feed(0, 0, 0, 0, 0);
        sea.feed(0, 0, 0, 0, 0);
        sea.wind(0, 1);
        sea.hour(0, 0, 0);
        check.row("told", sea::told, 20, 12, 1, 2, 998, 9, 3, 19, 10, 18, 11, 40, 3);
    }

    private void toldLand() {
        check.about("6 CELLS that are LAND (told)");
        String ships = "drifter 2 1 0;helper 2 1 0;port 2 1;";
        check.due("none", 0, () -> Sea.of("sea 4 3;" + ships).told(6));
        check.due("the first cell", 1, () -> Sea.of("sea 4 3;land 0 0;" + ships).told(6));
        check.due("the last cell", 1, () -> Sea.of("sea 4 3;land 3 2;" + ships).told(6));
        check.due("one cell told twice", 1, () -> Sea.of("sea 4 3;land 3 2;land 3 2;" + ships).told(6));
        StringBuilder text = new StringBuilder("sea 4 3;" + ships);
        for (int at = 0; at < 12; at++) {
            text.append(at == 6 ? "" : "land " + at % 4 + " " + at / 4 + ";");
        }
        check.due("all but one", 11, () -> Sea.of(text.toString()).told(6));
    }

    private void toldTape() {
        check.about("11 bytes of the TAPE (told)");
        SeaMeeting sea = new SeaMeeting();
        for (int i = 0; i <= 22; i++) {
            int due = Math.min(400, 20 * i);
            check.due("told(11)", due, () -> sea.told(11));
            sea.feed(1, 2, 3, 4, 5);
        }
        sea.fuel(0, 1);
        sea.undo();
        check.due("told(11) behind undo()", 400, () -> sea.told(11));
        sea.text(400);
        check.due("told(11) behind text()", 0, () -> sea.told(11));
    }

    private void cell() {
        check.about("Of a CELL: 0 1 LAND, 1 its CURRENT");
        SeaMeeting sea = Sea.of("sea 4 3;land 3 2;current 3 2 3 2 nw;current 0 0 0 0 n;drifter 1 1 0;port 1 1;"
                + "helper 1 1 0;");
        check.row("cell(3, 2)", what -> sea.cell(3, 2, what), 1, 8);
        check.row("cell(0, 0)", what -> sea.cell(0, 0, what), 0, 1);
        check.row("cell(3, 0)", what -> sea.cell(3, 0, what), 0, 0);
        check.row("cell(0, 2)", what -> sea.cell(0, 2, what), 0, 0);
        SeaMeeting all = Sea.of("sea 20 12;land 19 11;current 19 11 19 11 e;drifter 1 1 0;port 1 1;helper 1 1 0;");
        check.row("cell(19, 11)", what -> all.cell(19, 11, what), 1, 3);
        check.row("cell(0, 11)", what -> all.cell(0, 11, what), 0, 0);
        check.row("cell(19, 0)", what -> all.cell(19, 0, what), 0, 0);
    }

    private void blowsToTheLast() {
        check.about("WIND of an HOUR (0 to 560): those gone, too");
        SeaMeeting sea = Sea.of("sea 3 3;wind n e s;drifter 0 0 0;port 0 0;helper 1 1 0;");
        for (int i = 0; i < 5; i++) {
            sea.hour(0, 0, 0);
        }
        check.row("blows", sea::blows, 1, 3, 5, 1, 3, 5, 1);
        check.due("blows(559)", 3, () -> sea.blows(559));
        check.due("blows(560)", 5, () -> sea.blows(560));
    }

    private void helper() {
        check.about("Of a HELPER: 0 x, 1 y, 2 FUEL, 3 1 it MEETS now");
        SeaMeeting sea = Sea.of(STILL);
        check.row("helper 0", what -> sea.helper(0, what), 0, 1, 11, 0);
        check.row("helper 2, the last one", what -> sea.helper(2, what), 4, 1, 2, 1);
        check.due("hour(0, 0, 0)", 4, () -> sea.hour(0, 0, 0));
        check.row("helper 2", what -> sea.helper(2, what), 4, 1, 2, 1);
    }

    private static final String MOVING = "sea 20 12;current 0 0 19 11 e;wind n;drifter 1 2 6;port 0 0 ne o o;helper 9 9 0;";

    private void driftNow() {
        check.about("n HOURS from now (0 ..): 0, 1 x, y of the DRIFTER, 2, 3 of the PORT");
        SeaMeeting sea = Sea.of(MOVING);
        check.row("drift(0)", what -> sea.drift(0, what), 1, 2, 0, 0);
        check.row("drift(1)", what -> sea.drift(1, what), 2, 2, 1, 1);
        sea.hour(0, 0, 0);
        check.row("drift(0) in hour 1", what -> sea.drift(0, what), 2, 2, 1, 1);
        check.row("drift(1) in hour 1", what -> sea.drift(1, what), 3, 2, 1, 1);
    }

    private void driftToTheLast() {
        check.about("n HOURS from now (.. 60): 0, 1 x, y of the DRIFTER, 2, 3 of the PORT");
        SeaMeeting sea = Sea.of(MOVING);
        check.row("drift(54)", what -> sea.drift(54, what), 19, 11, 11, 11);
        SeaMeeting still = Sea.of("sea 20 12;wind o;drifter 1 2 1;port 3 3 o o o o o o o o o o o e;helper 9 9 0;");
        still.wind(59, 3);
        still.wind(60, 1);
        check.row("drift(59)", what -> still.drift(59, what), 1, 2, 7, 3);
        check.row("drift(60)", what -> still.drift(60, what), 2, 2, 8, 3);
        still.hour(0, 0, 0);
        check.row("drift(60) in hour 1", what -> still.drift(60, what), 2, 3, 8, 3);
    }

    private void costNow() {
        check.about("FUEL for a COURSE (1 to 8) n HOURS from now (0 ..)");
        SeaMeeting sea = Sea.of("sea 3 3;wind n s o;drifter 0 0 0;port 0 0;helper 1 1 0;");
        check.row("cost in 0", i -> sea.cost(i + 1, 0), 1, 2, 3, 4, 5, 4, 3, 2);
        check.row("cost in 1", i -> sea.cost(i + 1, 1), 5, 4, 3, 2, 1, 2, 3, 4);
        check.row("cost in 2", i -> sea.cost(i + 1, 2), 3, 3, 3, 3, 3, 3, 3, 3);
        sea.hour(0, 0, 0);
        check.row("cost in 0, in hour 1", i -> sea.cost(i + 1, 0), 5, 4, 3, 2, 1, 2, 3, 4);
    }

    private void costToTheLast() {
        check.about("FUEL for a COURSE (1 to 8) n HOURS from now (.. 59)");
        SeaMeeting sea = Sea.of("sea 3 3;drifter 0 0 0;port 0 0;helper 1 1 0;");
        sea.wind(59, 8);
        sea.wind(60, 2);
        check.row("cost in 59", i -> sea.cost(i + 1, 59), 2, 3, 4, 5, 4, 3, 2, 1);
        check.row("cost in 58", i -> sea.cost(i + 1, 58), 3, 3, 3, 3, 3, 3, 3, 3);
        sea.hour(0, 0, 0);
        check.row("cost in 59, in hour 1", i -> sea.cost(i + 1, 59), 2, 1, 2, 3, 4, 5, 4, 3);
    }

    private void meetNever() {
        check.about("EARLIEST of a HELPER: 0 in how many HOURS, 1 most FUEL left then; NONE: never");
        SeaMeeting sea = Sea.of(STILL);
        check.row("meet 0", what -> sea.meet(0, what), -1, -1);
        check.row("meet 1", what -> sea.meet(1, what), 3, 0);
        check.row("meet 2", what -> sea.meet(2, what), 0, 2);
        sea.fuel(0, 12);
        sea.fuel(1, 8);
        check.row("meet 0 with one more", what -> sea.meet(0, what), 4, 0);
        check.row("meet 1 with one less", what -> sea.meet(1, what), -1, -1);
        check.row("meet in 60", what -> sixty(0).meet(0, what), 60, 0);
        check.row("meet in 61", what -> sixty(1).meet(0, what), -1, -1);
    }

    private void meetMostFuel() {
        check.about("1 most FUEL left then (meet)");
        SeaMeeting sea = Sea.of("sea 6 4;wind o;drifter 4 1 0;helper 2 1 999;port 0 0;");
        check.row("meet", what -> sea.meet(0, what), 2, 993);
        sea.wind(1, 2);
        check.row("meet with a wind to the north-east", what -> sea.meet(0, what), 2, 995);
        sea.wind(0, 4);
        check.row("meet with two winds", what -> sea.meet(0, what), 2, 997);
    }

    private void routeHasNotSoMany() {
        check.about("The k-th COURSE of its ROUTE (from 0 on); NONE: it has not so many");
        SeaMeeting sea = Sea.of(STILL);
        check.row("route of 3", k -> sea.route(1, k), 2, 3, 4, -1, -1);
        check.row("route of none: now", k -> sea.route(2, k), -1, -1);
        check.row("route of none: never", k -> sea.route(0, k), -1, -1);
        for (int k : new int[] {-1, -2, 60, 61, 1000, Integer.MIN_VALUE, Integer.MAX_VALUE}) {
            check.due("route(1, " + k + ")", -1, () -> sea.route(1, k));
            check.due("route(0, " + k + ")", -1, () -> sea.route(0, k));
            check.due("route(2, " + k + ")", -1, () -> sea.route(2, k));
        }
        for (int k = 0; k < 60; k++) {
            int asked = k;
            check.due("route(0, " + k + ") of 60", 0, () -> sixty(0).route(0, asked));
        }
        check.due("route(0, 60) of 60", -1, () -> sixty(0).route(0, 60));
        check.same("status()", "0 0 0", Sea.statusOf(sea));
    }

    private void firstOfSeveral() {
        check.about("Which HELPER has the least EARLIEST, of several the least");
        SeaMeeting sea = Sea.of("sea 6 4;drifter 2 1 0;helper 5 1 99;helper 4 1 99;helper 0 1 99;port 0 0;");
        check.due("1 and 2 in 2 hours", 1, () -> sea.first());
        sea.fuel(1, 0);
        check.due("2 in 2 hours, 0 in 3", 2, () -> sea.first());
        sea.fuel(2, 0);
        check.due("0 alone", 0, () -> sea.first());
        SeaMeeting all = Sea.of("sea 6 4;drifter 2 1 0;helper 3 1 9;helper 2 2 99;helper 1 1 3;port 0 0;");
        check.due("all in 1 hour", 0, () -> all.first());
        SeaMeeting now = Sea.of("sea 6 4;drifter 2 1 0;helper 3 1 9;helper 3 1 99;helper 2 1 0;port 0 0;");
        check.due("the last one now", 2, () -> now.first());
        SeaMeeting later = Sea.of("sea 6 4;drifter 2 1 0;helper 3 1 9;helper 5 1 99;helper 0 1 99;port 0 0;");
        check.due("0 in 1 hour, 1 in 3, 2 in 2", 0, () -> later.first());
        later.fuel(0, 0);
        check.due("1 in 3 hours, 2 in 2", 2, () -> later.first());
    }

    private void firstNone() {
        check.about("NONE: none has one (first)");
        SeaMeeting sea = Sea.of("sea 6 4;drifter 2 1 0;helper 5 1 8;helper 4 1 5;helper 0 1 0;port 0 0;");
        check.due("first()", -1, () -> sea.first());
        sea.fuel(0, 9);
        check.due("first() with one more", 0, () -> sea.first());
        check.due("first() in 60", 0, () -> sixty(0).first());
        check.due("first() in 61", -1, () -> sixty(1).first());
    }

    private void leastNow() {
        check.about("LEAST FUEL by n HOURS (0 ..)");
        SeaMeeting sea = Sea.of(STILL);
        check.row("least by 0", i -> sea.least(i, 0), -1, -1, 0);
        check.row("least by 1 of 2", n -> sea.least(2, n), 0, 0);
    }

    private void leastNone() {
        check.about("NONE: by none (nor any) (least)");
        SeaMeeting sea = Sea.of(STILL);
        check.row("least of 0", n -> sea.least(0, n), -1, -1, -1, -1, 12, 12);
        check.row("least of 1", n -> sea.least(1, n), -1, -1, -1, 9, 9);
        SeaMeeting apart = Sea.of("sea 3 3;land 0 1;land 1 1;land 2 1;drifter 0 0 0;helper 2 2 999;port 2 2;");
        check.row("least by land apart", n -> apart.least(0, n * 20), -1, -1, -1, -1);
        check.row("by any fuel that is not there", n -> apart.meet(0, n), -1, -1);
    }

    private void leastOrLess() {
        check.about("can MEET in n HOURS or less (least, .. 60)");
        check.row("least by 59 and 60", i -> sixty(0).least(0, 59 + i), 3, 0);
        check.row("least by 59 and 60 where 61 are due", i -> sixty(1).least(0, 59 + i), 3, 3);
        SeaMeeting one = Sea.of("sea 4 3;wind w;drifter 0 0 1;helper 1 0 0;port 0 0;");
        one.wind(4, 3);
        check.row("one with the wind, later none at all", n -> one.least(0, n), -1, 1, 1, 1, 1, 0, 0);
        SeaMeeting passes = Sea.of("sea 6 3;current 0 0 5 0 e;drifter 0 0 0;helper 1 1 0;port 0 0;land 2 1;land 3 1;"
                + "land 4 1;land 5 1;land 0 1;");
        passes.wind(0, 5);
        check.row("one that passes by", n -> passes.least(0, n), -1, 2, 2, 2, 2, 1, 1);
    }

    private void reachNow() {
        check.about("REACH in n HOURS (0 ..): how many CELLS");
        SeaMeeting sea = Sea.of(STILL);
        check.row("reach in 0", i -> sea.reach(i, 0), 1, 1, 1);
        check.row("reach in 1", i -> sea.reach(i, 1), 6, 9, 1);
    }

    private void reachThen() {
        check.about("REACH in n HOURS (.. 60): how many CELLS");
        SeaMeeting sea = Sea.of("sea 20 12;drifter 0 0 0;helper 0 0 999;helper 0 0 0;helper 0 0 3;port 0 0;land 1 0;");
        check.row("reach in 60", i -> sea.reach(i, 60), 239, 1, 3);
        check.row("reach in 19 and 18", i -> sea.reach(0, 19 - i), 239, 239 - 12);
        SeaMeeting east = Sea.of("sea 3 3;current 0 0 2 0 e;drifter 0 2 0;helper 0 0 0;port 0 0;");
        check.row("carried", n -> east.reach(0, n), 1, 1, 1, 1);
    }

    private void mostNow() {
        check.about("The most FUEL that it can have in a CELL in n HOURS (0 ..)");
        SeaMeeting sea = Sea.of(STILL);
        check.row("in its own cell", i -> sea.most(i, 0, i == 2 ? 4 : i, 1), 11, 9, 2);
        check.row("beside it", i -> sea.most(0, 0, i, 2), -1, -1);
        check.row("in 1", x -> sea.most(0, 1, x, 1), 11, 8, -1);
    }

    private void mostCanNotBe() {
        check.about("NONE: it can't be there (most)");
        SeaMeeting sea = Sea.of("sea 6 4;drifter 4 1 0;helper 0 1 6;port 5 3;land 1 1;land 2 2;");
        check.row("on land", n -> sea.most(0, n * 20, 1, 1), -1, -1, -1, -1);
        check.row("as far as the fuel goes", x -> sea.most(0, 60, x, 0), 3, 3, 0, -1, -1, -1);
        check.row("too early", n -> sea.most(0, n, 2, 0), -1, -1, 0, 0);
        check.row("to the last cell", n -> sea.most(0, 60, 5, n), -1, -1, -1, -1);
    }

    private void mostOfSeveral() {
        check.about("The most FUEL that it can have in a CELL in n HOURS (.. 60)");
        SeaMeeting sea = Sea.of("sea 6 3;wind w;drifter 4 1 0;helper 0 1 99;port 5 2;");
        sea.wind(59, 3);
        check.row("in 59, 60", i -> sea.most(0, 59 + i, 1, 1), 94, 98);
        check.row("by two courses in 60", i -> sea.most(0, 60, 2, 1), 99 - 5 - 1);
        check.row("in its cell", i -> sea.most(0, i * 30, 0, 1), 99, 99, 99);
    }

    private void relayNever() {
        check.about("RELAY of two HELPERS: in how many HOURS; NONE: never");
        SeaMeeting sea = Sea.of(STILL);
        check.due("relay(0, 1): 0 has 8 in 1's cell", 4, () -> sea.relay(0, 1));
        check.due("relay(1, 2)", 3, () -> sea.relay(1, 2));
        check.due("relay(2, 1)", 3, () -> sea.relay(2, 1));
        check.due("relay(0, 2): never in one cell", -1, () -> sea.relay(0, 2));
        sea.fuel(0, 3);
        sea.fuel(1, 8);
        check.due("relay(0, 1) with one too little", -1, () -> sea.relay(0, 1));
        sea.fuel(0, 4);
        check.due("relay(0, 1) with just enough", 4, () -> sea.relay(0, 1));
    }

    private void homeNever() {
        check.about("NONE: never, or it has no EARLIEST (home)");
        SeaMeeting sea = Sea.of(STILL);
        check.row("no EARLIEST", what -> sea.home(0, what), -1, -1);
        check.row("never", what -> sea.home(1, what), -1, -1);
        sea.fuel(1, 9 + 12);
        check.row("with just enough", what -> sea.home(1, what), 5, 0);
        sea.fuel(1, 9 + 11);
        check.row("with one too little", what -> sea.home(1, what), -1, -1);
        check.row("in 60", what -> sixty(0).home(0, what), 60, 0);
        check.row("in 61", what -> sixty(1).home(0, what), -1, -1);
    }

    private void homeNow() {
        check.about("HOME: 0 in how many HOURS, 1 the most FUEL left");
        SeaMeeting sea = Sea.of("sea 6 4;drifter 4 1 0;helper 4 1 7;helper 3 1 7;port 4 1;");
        check.row("now", what -> sea.home(0, what), 0, 7);
        check.row("in 1", what -> sea.home(1, what), 1, 4);
    }

    private void print() {
        check.about("From 0 on: 31 times what there is, and the number of the DRIFTER's CELL (WIDE times y, and x) ..");
        SeaMeeting sea = Sea.of("sea 7 4;drifter 6 3 0;port 2 1;helper 1 2 600;");
        check.due("print() of one", ((27L * 31 + 9) * 31 + 15) * 31 + 600, () -> sea.print());
        SeaMeeting two = Sea.of("sea 7 4;drifter 6 3 0;port 2 1;helper 1 2 600;helper 0 0 0;");
        check.due("print() of two", (((27L * 31 + 9) * 31 + 15) * 31 + 600) * 31 * 31, () -> two.print());
        SeaMeeting none = Sea.of("sea 7 4;drifter 0 0 0;port 0 0;helper 0 0 0;");
        check.due("print() of all at 0", 0, () -> none.print());
        check.due("print() of a new one", 4102, () -> new SeaMeeting().print());
    }

    private void printGreatest() {
        check.about("long print(): the greatest there is");
        SeaMeeting sea = Sea.of("sea 20 12;drifter 19 11 0;port 19 11;" + "helper 19 11 999;".repeat(3));
        long due = 0;
        for (int number : new int[] {239, 239, 239, 999, 239, 999, 239, 999}) {
            due = due * 31 + number;
        }
        long want = due;
        check.due("print()", want, () -> sea.print());
        check.due("print() is more than an int", 1, () -> sea.print() > Integer.MAX_VALUE ? 1 : 0);
    }

    private void aheadFromHour500() {
        check.about("HOUR 500: AHEAD, WIND to 560, acts but hour() and undo()");
        SeaMeeting sea = new SeaMeeting();
        for (int i = 0; i < 499; i++) {
            sea.hour(0, 0, 0);
        }
        check.due("hour(6, 0, 0) in hour 499", 0, () -> sea.hour(6, 0, 0));
        check.due("told(2)", 500, () -> sea.told(2));
        check.due("wind(500, 6)", 0, () -> sea.wind(500, 6));
        check.due("cost(6, 0)", 1, () -> sea.cost(6, 0));
        check.due("wind(559, 2)", 0, () -> sea.wind(559, 2));
        check.due("cost(2, 59)", 1, () -> sea.cost(2, 59));
        check.due("meet(0, 1)", 6, () -> sea.meet(0, 1));
        check.due("most(0, 60, 2, 2)", 6, () -> sea.most(0, 60, 2, 2));
        check.due("undo()", 7, () -> sea.undo());
        check.due("undo()", 6, () -> sea.undo());
        check.due("undo() of the hour", 5, () -> sea.undo());
        check.due("told(2)", 499, () -> sea.told(2));
    }
}
