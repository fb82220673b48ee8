import java.util.function.Supplier;

/** Terms 1 to 3 but for the text: each sentence that names a boundary case, by a test of its own. */
public final class TermsEdgeTest {
    private static final Class<IllegalStateException> STATE = IllegalStateException.class;

    private static final String[] WORDS = {"o", "n", "ne", "e", "se", "s", "sw", "w", "nw"};
    private static final int[] EAST = {0, 0, 1, 1, 1, 0, -1, -1, -1};
    private static final int[] NORTH = {0, 1, 1, 0, -1, -1, -1, 0, 1};

    private final Check check = new Check("terms");

    public static void main(String[] args) {
        TermsEdgeTest test = new TermsEdgeTest();
        test.firstState();
        test.numbersOfCells();
        test.directions();
        test.stepsThatAreNotMade();
        test.stepsFromLand();
        test.currentAtFirst();
        test.windOfARow();
        test.windWithoutARow();
        test.windByHand();
        test.hours();
        test.currentAheadOfWind();
        test.leeway();
        test.windOfTheHour();
        test.courseAheadOfCurrent();
        test.courseThatCanNotBe();
        test.costOfNone();
        test.costWithoutWind();
        test.costWithWind();
        test.fuelEnough();
        test.portByItsRow();
        test.meets();
        test.aheadSixty();
        test.aheadByHand();
        test.nothingIsTugged();
        test.earliest();
        test.routeWithMostFuel();
        test.routeOfSeveral();
        test.leastFuel();
        test.reach();
        test.relayOfAllFuel();
        test.relayToTheTank();
        test.relayInOneCell();
        test.relayNow();
        test.relayAtTheHourOfGiving();
        test.relaySixty();
        test.homeBehindItsRoute();
        test.homeCostsTwice();
        test.homeTows();
        test.homeFirstHour();
        test.homeMostFuel();
        test.homeSixty();
        test.acts();
        test.undoOne();
        test.undoOfEight();
        test.undoThenAct();
        test.askedNothingChanges();
        test.check.end();
    }

    private void firstState() {
        check.about("At first the SEA is 3 by 3, the DRIFTER at (0, 0), LEEWAY 0, a HELPER at (2, 2) with FUEL 10, the "
                + "PORT at (1, 1), TANK 999");
        SeaMeeting sea = new SeaMeeting();
        check.row("told", sea::told, 3, 3, 0, 1, 999, 0, 0, 0, 0, 1, 1, 0, 0);
        check.row("helper 0", what -> sea.helper(0, what), 2, 2, 10, 0);
        String text = "sea 3 3;drifter 0 0 0;helper 2 2 10;port 1 1;tank 999;";
        new Twins(check, "a new one", 20, () -> withoutActs(Sea.of(text)), SeaMeeting::new).same(true);
    }

    /** Eight acts taken back leave the first state; this one keeps none. */
    private static SeaMeeting withoutActs(SeaMeeting sea) {
        for (int i = 0; i < 8; i++) {
            sea.fuel(0, 10);
        }
        for (int i = 0; i < 8; i++) {
            sea.undo();
        }
        return sea;
    }

    // Terms 1.

    private void numbersOfCells() {
        check.about("CELLS (x, y), x 0 to WIDE less 1 (to the east), y 0 to HIGH less 1 (to the north)");
        int[][] sizes = {{3, 3}, {20, 3}, {3, 12}, {20, 12}, {7, 4}};
        for (int[] size : sizes) {
            int wide = size[0];
            int high = size[1];
            SeaMeeting sea = Sea.of("sea " + wide + " " + high + ";drifter 0 0 0;helper 0 0 0;port 0 0;");
            for (int x : new int[] {-1, 0, wide - 1, wide, 12, 20}) {
                for (int y : new int[] {-1, 0, high - 1, high, 12, 20}) {
                    boolean is = x >= 0 && x < wide && y >= 0 && y < high;
                    String due = is ? "0" : "java.lang.IllegalArgumentException";
                    String call = "cell(" + x + ", " + y + ", 0) of " + wide + " by " + high;
                    check.same(call, due, Check.outcome(() -> sea.cell(x, y, 0)));
                }
            }
        }
    }

    /** Where one that starts from (x, y) is an hour later, as "x y", or that it can't be; land may be told, too. */
    private interface Mover {
        String behind(int x, int y, int direction, String land);
    }

    private static String drifterByCurrent(int x, int y, int direction, String land) {
        SeaMeeting sea = Sea.of("sea 3 3;" + land + "current " + x + " " + y + " " + x + " " + y + " "
                + WORDS[direction] + ";drifter " + x + " " + y + " 0;helper " + x + " " + y + " 9;port " + x + " " + y
                + ";");
        String ahead = sea.drift(1, 0) + " " + sea.drift(1, 1);
        sea.hour(0, 0, 0);
        String behind = sea.told(7) + " " + sea.told(8);
        return ahead.equals(behind) ? behind : "ahead " + ahead + ", behind " + behind;
    }

    private static String drifterByWind(int x, int y, int direction, String land) {
        SeaMeeting sea = Sea.of("sea 3 3;" + land + "wind " + WORDS[direction] + ";drifter " + x + " " + y
                + " 1;helper " + x + " " + y + " 9;port " + x + " " + y + ";");
        String ahead = sea.drift(1, 0) + " " + sea.drift(1, 1);
        sea.hour(0, 0, 0);
        String behind = sea.told(7) + " " + sea.told(8);
        return ahead.equals(behind) ? behind : "ahead " + ahead + ", behind " + behind;
    }

    private static String port(int x, int y, int direction, String land) {
        SeaMeeting sea = Sea.of("sea 3 3;" + land + "port " + x + " " + y + " " + WORDS[direction] + ";drifter " + x
                + " " + y + " 1;helper " + x + " " + y + " 9;");
        String ahead = sea.drift(1, 2) + " " + sea.drift(1, 3);
        sea.hour(0, 0, 0);
        String behind = sea.told(9) + " " + sea.told(10);
        return ahead.equals(behind) ? behind : "ahead " + ahead + ", behind " + behind;
    }

    private static String helperByCurrent(int x, int y, int direction, String land) {
        SeaMeeting sea = Sea.of("sea 3 3;" + land + "current " + x + " " + y + " " + x + " " + y + " "
                + WORDS[direction] + ";drifter " + x + " " + y + " 0;helper " + x + " " + y + " 0;port " + x + " " + y
                + ";");
        int reached = sea.reach(0, 1);
        String ahead = most(sea, 1);
        sea.hour(0, 0, 0);
        String behind = sea.helper(0, 0) + " " + sea.helper(0, 1);
        return ahead.equals(behind) && reached == 1 ? behind : "ahead " + ahead + ", behind " + behind;
    }

    /** The cells in which helper 0 can be in so many hours. */
    private static String most(SeaMeeting sea, int hours) {
        StringBuilder all = new StringBuilder();
        for (int x = 0; x < sea.told(0); x++) {
            for (int y = 0; y < sea.told(1); y++) {
                if (sea.most(0, hours, x, y) >= 0) {
                    all.append(all.length() == 0 ? "" : ", ").append(x).append(' ').append(y);
                }
            }
        }
        return all.toString();
    }

    private static String helperByCourse(int x, int y, int direction, String land) {
        SeaMeeting sea = Sea.of("sea 3 3;" + land + "drifter " + x + " " + y + " 0;helper " + x + " " + y + " 3;port "
                + x + " " + y + ";");
        String answer = Check.outcome(() -> sea.hour(direction, 0, 0));
        String at = sea.helper(0, 0) + " " + sea.helper(0, 1);
        return answer.equals(STATE.getName()) ? "can't be" : at;
    }

    private void directions() {
        check.about("0 none, 1 north (y and 1), 2 north-east, 3 east (x and 1), 4 south-east, 5 south, 6 south-west, "
                + "7 west, 8 north-west; words for them: o, n, ne, e, se, s, sw, w, nw");
        String[] due = {"1 1", "1 2", "2 2", "2 1", "2 0", "1 0", "0 0", "0 1", "0 2"};
        for (int direction = 0; direction <= 8; direction++) {
            each(1, 1, direction, "", due[direction], due[direction]);
        }
    }

    private void each(int x, int y, int direction, String land, String due, String dueByCourse) {
        String from = " from " + x + " " + y + " by " + WORDS[direction] + " " + land;
        check.same("the drifter by the current" + from, due, drifterByCurrent(x, y, direction, land));
        check.same("the drifter by the wind" + from, due, drifterByWind(x, y, direction, land));
        check.same("the port" + from, due, port(x, y, direction, land));
        check.same("a helper by the current" + from, due, helperByCurrent(x, y, direction, land));
        check.same("a helper by its course" + from, dueByCourse, helperByCourse(x, y, direction, land));
    }

    private void stepsThatAreNotMade() {
        check.about("by 0, to LAND, or off the SEA it is not made (the CELL stays)");
        for (int at = 0; at < 9; at++) {
            int x = at % 3;
            int y = at / 3;
            for (int direction = 1; direction <= 8; direction++) {
                int eastOf = x + EAST[direction];
                int northOf = y + NORTH[direction];
                boolean off = eastOf < 0 || eastOf > 2 || northOf < 0 || northOf > 2;
                String stays = x + " " + y;
                String to = eastOf + " " + northOf;
                each(x, y, direction, "", off ? stays : to, off ? "can't be" : to);
                if (!off) {
                    each(x, y, direction, "land " + to + ";", stays, "can't be");
                }
            }
            each(x, y, 0, "", x + " " + y, x + " " + y);
        }
    }

    private void stepsFromLand() {
        check.about("to LAND it is not made: no other CELL's LAND holds a STEP back");
        String ring = "land 0 0;land 1 0;land 2 0;land 0 1;land 2 1;land 0 2;land 2 2;";
        each(1, 1, 1, ring, "1 2", "1 2");
        check.due("reach in a ring of land", 2, () -> Sea.of("sea 3 3;" + ring
                + "drifter 1 1 0;port 1 1;helper 1 1 300;").reach(0, 60));
        check.due("reach where all around is land", 1, () -> Sea.of("sea 3 3;" + ring
                + "land 1 2;drifter 1 1 0;port 1 1;helper 1 1 300;").reach(0, 60));
    }

    private void currentAtFirst() {
        check.about("CURRENT of a CELL: a DIRECTION (0 at first)");
        SeaMeeting sea = Sea.of("sea 4 3;current 1 1 1 1 nw;drifter 0 0 0;helper 1 1 1;port 0 0;");
        check.row("currents", at -> sea.cell(at % 4, at / 4, 1), 0, 0, 0, 0, 0, 8, 0, 0, 0, 0, 0, 0);
        Sea.tell(sea, "sea 4 3;drifter 0 0 0;helper 1 1 1;port 0 0;");
        check.row("currents told anew", at -> sea.cell(at % 4, at / 4, 1), 0, 0, 0, 0, 0, 0, 0, 0, 0, 0, 0, 0);
    }

    private void windOfARow() {
        check.about("WIND: of the row told (its first one in HOUR 0; again from its begin on behind its end)");
        SeaMeeting one = winds("wind sw;");
        check.row("a row of 1", one::blows, 6, 6, 6);
        check.due("blows(560)", 6, () -> one.blows(560));
        SeaMeeting two = winds("wind e o;");
        check.row("a row of 2", two::blows, 3, 0, 3, 0, 3);
        check.due("blows(559)", 0, () -> two.blows(559));
        check.due("blows(560)", 3, () -> two.blows(560));
        SeaMeeting all = winds("wind n ne e se s sw w nw o n ne e se s sw w nw o n ne e se s sw;");
        for (int hour = 0; hour <= 560; hour++) {
            int asked = hour;
            check.due("a row of 24 in " + hour, (hour % 24 + 1) % 9, () -> all.blows(asked));
        }
    }

    private static SeaMeeting winds(String wind) {
        return Sea.of("sea 3 3;" + wind + "drifter 0 0 0;helper 1 1 1;port 0 0;");
    }

    private void windWithoutARow() {
        check.about("0 without a row (WIND)");
        SeaMeeting none = winds("");
        SeaMeeting fresh = new SeaMeeting();
        for (int hour = 0; hour <= 560; hour += 4) {
            int asked = hour;
            check.due("blows(" + hour + ")", 0, () -> none.blows(asked));
            check.due("blows(" + hour + ") of a new one", 0, () -> fresh.blows(asked));
        }
        SeaMeeting again = winds("wind n;");
        Sea.tell(again, "sea 3 3;drifter 0 0 0;helper 1 1 1;port 0 0;");
        check.row("told anew without a row", again::blows, 0, 0);
    }

    private void windByHand() {
        check.about("but of an HOUR for which it was put in by hand that (WIND)");
        SeaMeeting sea = winds("wind n s;");
        sea.wind(0, 3);
        sea.wind(2, 0);
        sea.wind(3, 8);
        sea.wind(3, 7);
        sea.wind(559, 1);
        sea.wind(560, 2);
        check.row("blows", sea::blows, 3, 5, 0, 7, 1, 5, 1);
        check.row("blows from 557 on", i -> sea.blows(557 + i), 5, 1, 1, 2);
        check.due("cost(1, 2): none blows", 3, () -> sea.cost(1, 2));
        check.due("cost(7, 3)", 1, () -> sea.cost(7, 3));
        sea.hour(0, 0, 0);
        check.due("blows(0) behind it", 3, () -> sea.blows(0));
        SeaMeeting without = winds("");
        without.wind(1, 4);
        check.row("without a row", without::blows, 0, 4, 0);
    }

    // Terms 2: what an hour does.

    private void hours() {
        check.about("An HOUR t (0 at first; 0 to 500) goes to t and 1");
        SeaMeeting sea = new SeaMeeting();
        check.due("told(2)", 0, () -> sea.told(2));
        for (int hour = 1; hour <= 500; hour++) {
            String call = "hour " + hour;
            check.due(call, 0, () -> sea.hour(0, 0, 0));
        }
        check.due("told(2)", 500, () -> sea.told(2));
        check.refused("hour 501", STATE, () -> sea.hour(0, 0, 0));
        check.due("told(2)", 500, () -> sea.told(2));
    }

    private void currentAheadOfWind() {
        check.about("The DRIFTER makes a STEP by the CURRENT of its CELL; then a STEP by the WIND");
        SeaMeeting sea = Sea.of("sea 5 5;current 0 0 0 0 e;current 1 0 1 0 w;current 1 1 1 1 e;wind n;land 0 1;"
                + "drifter 0 0 1;helper 4 4 0;port 4 4;");
        check.row("x", n -> sea.drift(n, 0), 0, 1, 2, 2, 2, 2);
        check.row("y", n -> sea.drift(n, 1), 0, 1, 2, 3, 4, 4);
        SeaMeeting held = Sea.of("sea 5 5;current 0 0 4 4 e;wind n;land 1 0;drifter 0 0 1;helper 4 4 0;port 4 4;");
        check.row("x, held by land at first", n -> held.drift(n, 0), 0, 0, 1, 2);
        check.row("y, held by land at first", n -> held.drift(n, 1), 0, 1, 2, 3);
    }

    private void leeway() {
        check.about("if LEEWAY is above 0 and t and 1 is a multiple of it, a STEP by the WIND of t");
        for (int leeway = 0; leeway <= 9; leeway++) {
            SeaMeeting sea = Sea.of("sea 20 3;wind e;drifter 0 0 " + leeway + ";helper 0 2 0;port 0 0;");
            for (int n = 0; n <= 60; n++) {
                int hours = n;
                int due = leeway == 0 ? 0 : Math.min(19, n / leeway);
                check.due("x with leeway " + leeway + " in " + n, due, () -> sea.drift(hours, 0));
            }
            sea.hour(0, 0, 0);
            sea.hour(0, 0, 0);
            int due = leeway == 0 ? 0 : 11 / leeway;
            String call = "x with leeway " + leeway + " from hour 2 on in 9";
            check.due(call, due, () -> sea.drift(9, 0));
        }
    }

    private void windOfTheHour() {
        check.about("a STEP by the WIND of t: not of t and 1");
        SeaMeeting sea = Sea.of("sea 9 9;wind e n o w s;drifter 4 4 2;helper 0 0 0;port 0 0;");
        check.row("x", n -> sea.drift(n, 0), 4, 4, 4, 4, 3, 3, 4, 4, 4, 4, 4);
        check.row("y", n -> sea.drift(n, 1), 4, 4, 5, 5, 5, 5, 5, 5, 5, 5, 4);
    }

    private void courseAheadOfCurrent() {
        check.about("it makes that STEP, then one by the CURRENT of the CELL where it is then");
        String streams = "sea 5 5;current 1 1 1 1 s;current 2 1 2 1 n;current 2 2 2 2 e;current 3 1 3 1 e;land 4 1;"
                + "drifter 0 4 0;port 0 4;";
        SeaMeeting sea = Sea.of(streams + "helper 1 1 99;helper 2 1 99;helper 3 2 99;");
        sea.hour(3, 0, 5);
        check.row("by a course: the current there", what -> sea.helper(0, what), 2, 2, 96);
        check.row("by 0: the current of its cell", what -> sea.helper(1, what), 2, 2, 99);
        check.row("a current to land holds it", what -> sea.helper(2, what), 3, 1, 96);
        SeaMeeting ahead = Sea.of(streams + "helper 1 1 3;");
        check.due("most by a course", 0, () -> ahead.most(0, 1, 2, 2));
        check.due("most by 0", 3, () -> ahead.most(0, 1, 1, 0));
        check.due("most in the cell itself", -1, () -> ahead.most(0, 1, 1, 1));
        check.due("most in the cell of the step", -1, () -> ahead.most(0, 1, 2, 1));
    }

    private void courseThatCanNotBe() {
        check.about("one whose STEP is not made can't be, but 0");
        SeaMeeting sea = Sea.of("sea 3 3;land 1 0;land 0 1;land 1 1;drifter 2 2 0;helper 0 0 99;port 2 2;");
        for (int course = 1; course <= 8; course++) {
            int asked = course;
            check.refused("hour(" + course + ", 0, 0)", STATE, () -> sea.hour(asked, 0, 0));
        }
        check.due("reach(0, 60)", 1, () -> sea.reach(0, 60));
        check.due("most(0, 60, 0, 0): no course was tried", 99, () -> sea.most(0, 60, 0, 0));
        check.due("hour(0, 0, 0)", 0, () -> sea.hour(0, 0, 0));
        SeaMeeting carried = Sea.of("sea 3 3;current 0 0 0 0 e;drifter 2 2 0;helper 0 0 99;port 2 2;");
        check.refused("a course off the sea, whatever the current", STATE, () -> carried.hour(7, 0, 0));
        check.due("most(0, 1, 1, 0): by the current alone", 99, () -> carried.most(0, 1, 1, 0));
    }

    private void costOfNone() {
        check.about("FUEL for it: 0 for COURSE 0");
        for (String wind : new String[] {"", "wind o;", "wind n;", "wind nw;"}) {
            SeaMeeting sea = Sea.of("sea 3 3;" + wind + "drifter 0 0 0;helper 1 1 0;helper 2 2 7;port 0 0;");
            check.due("hour(0, 0, 0) " + wind, 0, () -> sea.hour(0, 0, 0));
            check.row("fuel " + wind, i -> sea.helper(i, 2), 0, 7);
            check.due("most in its cell " + wind, 7, () -> sea.most(1, 60, 2, 2));
        }
    }

    private void costWithoutWind() {
        check.about("else, without WIND in t 3");
        SeaMeeting sea = winds("wind n o;");
        sea.wind(2, 0);
        check.row("cost in 1", i -> sea.cost(i + 1, 1), 3, 3, 3, 3, 3, 3, 3, 3);
        check.row("cost in 2, put in by hand", i -> sea.cost(i + 1, 2), 3, 3, 3, 3, 3, 3, 3, 3);
        for (int course = 1; course <= 8; course++) {
            SeaMeeting still = Sea.of("sea 3 3;drifter 0 0 0;helper 1 1 4;port 0 0;");
            still.hour(course, 0, 0);
            check.due("fuel behind course " + course, 1, () -> still.helper(0, 2));
        }
    }

    private void costWithWind() {
        check.about("with it 1 and how many eighths COURSE is from WIND (0 to 4: north to south is 4)");
        int[] apart = {0, 1, 2, 3, 4, 3, 2, 1};
        for (int wind = 1; wind <= 8; wind++) {
            SeaMeeting sea = winds("wind " + WORDS[wind] + ";");
            for (int course = 1; course <= 8; course++) {
                int asked = course;
                int due = 1 + apart[(course - wind + 8) % 8];
                check.due("cost(" + course + ", 0) by wind " + wind, due, () -> sea.cost(asked, 0));
                SeaMeeting sailed = Sea.of("sea 3 3;wind " + WORDS[wind] + ";drifter 0 0 0;helper 1 1 6;port 0 0;");
                sailed.hour(course, 0, 0);
                check.due("fuel behind " + course + " by wind " + wind, 6 - due, () -> sailed.helper(0, 2));
            }
        }
        check.due("north to south", 5, () -> winds("wind n;").cost(5, 0));
        check.due("north-west to north", 2, () -> winds("wind nw;").cost(1, 0));
        check.due("north to north-west", 2, () -> winds("wind n;").cost(8, 0));
    }

    private void fuelEnough() {
        check.about("No COURSE for which there is not FUEL enough");
        for (int fuel = 0; fuel <= 6; fuel++) {
            for (int course = 1; course <= 8; course++) {
                int asked = course;
                int cost = 1 + Math.min(course - 1, 9 - course);
                SeaMeeting sea = Sea.of("sea 3 3;wind n;drifter 0 0 0;helper 1 1 " + fuel + ";port 0 0;");
                int left = fuel - cost;
                String call = "course " + course + " with " + fuel;
                int x = 1 + EAST[course];
                int y = 1 + NORTH[course];
                check.due("most behind " + call, Math.max(left, -1), () -> sea.most(0, 1, x, y));
                if (left < 0) {
                    check.refused(call, STATE, () -> sea.hour(asked, 0, 0));
                } else {
                    check.due(call, x == 0 && y == 0 ? 1 : 0, () -> sea.hour(asked, 0, 0));
                    check.due("fuel behind " + call, left, () -> sea.helper(0, 2));
                }
            }
        }
    }

    private void portByItsRow() {
        check.about("The PORT makes a STEP by the DIRECTION of its row that is at place t modulo its length (none without "
                + "a row)");
        SeaMeeting none = Sea.of("sea 5 5;current 0 0 4 4 e;wind n;drifter 0 0 1;helper 0 0 0;port 2 2;");
        check.row("x without a row", n -> none.drift(n * 20, 2), 2, 2, 2, 2);
        check.row("y without a row", n -> none.drift(n * 20, 3), 2, 2, 2, 2);
        SeaMeeting three = Sea.of("sea 9 9;drifter 0 0 0;helper 0 0 0;port 0 0 e o n;");
        check.row("x of a row of 3", n -> three.drift(n, 2), 0, 1, 1, 1, 2, 2, 2, 3);
        check.row("y of a row of 3", n -> three.drift(n, 3), 0, 0, 0, 1, 1, 1, 2, 2);
        three.hour(0, 0, 0);
        three.hour(0, 0, 0);
        check.row("x from hour 2 on", n -> three.drift(n, 2), 1, 1, 2, 2, 2, 3);
        check.row("y from hour 2 on", n -> three.drift(n, 3), 0, 1, 1, 1, 2, 2);
        SeaMeeting one = Sea.of("sea 9 9;drifter 0 0 0;helper 0 0 0;port 0 0 ne;");
        check.row("x of a row of 1", n -> one.drift(n, 2), 0, 1, 2, 3, 4, 5, 6, 7, 8, 8);
        SeaMeeting twelve = Sea.of("sea 9 9;drifter 0 0 0;helper 0 0 0;port 0 0 o o o o o o o o o o n e;");
        check.row("x of a row of 12", n -> twelve.drift(n * 12, 2), 0, 1, 2, 3, 4, 5);
        check.row("y of a row of 12", n -> twelve.drift(n * 12 + 11, 3), 1, 2, 3, 4, 5);
        check.due("y of a row of 12 in 10", 0, () -> twelve.drift(10, 3));
        SeaMeeting anew = Sea.of("sea 9 9;drifter 0 0 0;helper 0 0 0;port 0 0 ne;");
        Sea.tell(anew, "sea 9 9;drifter 0 0 0;helper 0 0 0;port 0 0;");
        check.due("told anew without a row", 0, () -> anew.drift(60, 2));
    }

    private void meets() {
        check.about("A HELPER MEETS at an HOUR, if it is in the DRIFTER's CELL then (now, too)");
        SeaMeeting sea = Sea.of("sea 4 3;current 1 1 1 1 e;drifter 1 1 0;helper 1 1 0;helper 1 2 3;helper 2 1 0;"
                + "port 0 0;");
        check.row("it meets now", i -> sea.helper(i, 3), 1, 0, 0);
        check.row("meet now", i -> sea.meet(i, 0), 0, 1, 1);
        check.due("hour: 0 is carried along, 1 goes to where the drifter was", 5, () -> sea.hour(0, 0, 0));
        check.row("it meets then", i -> sea.helper(i, 3), 1, 0, 1);
        check.due("hour: 1 follows", 7, () -> sea.hour(0, 4, 0));
        check.row("they all meet", i -> sea.helper(i, 3), 1, 1, 1);
        SeaMeeting column = Sea.of("sea 3 3;drifter 1 1 0;helper 1 0 0;helper 0 1 0;helper 2 2 0;port 0 0;");
        check.row("the same x or y is not enough", i -> column.helper(i, 3), 0, 0, 0);
    }

    // Terms 2: ahead.

    /** The wind of hour 59 + late brings the drifter to a helper without fuel. */
    private static SeaMeeting sixty(int late) {
        SeaMeeting sea = Sea.of("sea 3 3;drifter 0 0 1;helper 1 0 0;helper 1 0 1;port 0 0;");
        sea.wind(59 + late, 3);
        return sea;
    }

    private void aheadSixty() {
        check.about("AHEAD is looked at no more than 60 HOURS from now on");
        check.row("meet in 60", i -> sixty(0).meet(0, i), 60, 0);
        check.row("meet in 61", i -> sixty(1).meet(0, i), -1, -1);
        check.due("route of 60, its last one", 0, () -> sixty(0).route(0, 59));
        check.due("route of 60 has no 60th", -1, () -> sixty(0).route(0, 60));
        check.due("route of 61", -1, () -> sixty(1).route(0, 0));
        check.due("first in 60", 0, () -> sixty(0).first());
        check.due("first in 61", -1, () -> sixty(1).first());
        check.due("least by 60", 0, () -> sixty(0).least(0, 60));
        check.due("least by 60 where 61 are due", 3, () -> sixty(1).least(0, 60));
        check.due("relay in 60", 60, () -> sixty(0).relay(0, 1));
        check.due("relay in 61", -1, () -> sixty(1).relay(0, 1));
        SeaMeeting later = sixty(1);
        later.hour(0, 0, 0);
        check.row("meet in 61, an hour later", i -> later.meet(0, i), 60, 0);
    }

    private void aheadByHand() {
        check.about("as it is now, winds put in by hand, too");
        SeaMeeting sea = Sea.of("sea 4 3;wind w;drifter 0 0 1;helper 3 0 2;port 0 2;");
        check.row("meet", i -> sea.meet(0, i), -1, -1);
        sea.wind(2, 3);
        check.row("meet by another wind", i -> sea.meet(0, i), 3, 0);
        check.row("x", n -> sea.drift(n, 0), 0, 0, 0, 1, 0);
        sea.fuel(0, 1);
        check.row("meet with too little fuel by hand", i -> sea.meet(0, i), -1, -1);
        sea.undo();
        check.row("meet with fuel as it was", i -> sea.meet(0, i), 3, 0);
        sea.undo();
        check.row("meet as it was", i -> sea.meet(0, i), -1, -1);
    }

    private void nothingIsTugged() {
        check.about("nothing is tugged along");
        SeaMeeting sea = Sea.of("sea 6 3;wind e;drifter 1 0 1;helper 1 0 9;port 0 2;");
        check.row("x of a drifter that is met", n -> sea.drift(n, 0), 1, 2, 3, 4, 5, 5);
        check.due("hour(7, 0, 0) away from it", 0, () -> sea.hour(7, 0, 0));
        check.due("x of the drifter", 2, () -> sea.told(7));
        check.due("x of the helper", 0, () -> sea.helper(0, 0));
    }

    private void earliest() {
        check.about("EARLIEST: the first HOUR from now on (0: now, 1 ..) at which it can MEET");
        SeaMeeting sea = Sea.of("sea 5 3;drifter 0 0 0;helper 0 0 5;helper 1 0 3;helper 2 0 6;port 0 2;");
        check.row("in how many hours", i -> sea.meet(i, 0), 0, 1, 2);
        check.row("fuel left", i -> sea.meet(i, 1), 5, 0, 0);
        sea.hour(0, 0, 7);
        check.row("from hour 1 on", i -> sea.meet(i, 0), 0, 1, 1);
        SeaMeeting less = Sea.of("sea 5 3;drifter 0 0 0;helper 1 0 2;helper 2 0 5;port 0 2;");
        check.row("with one fuel too little", i -> less.meet(i, 0), -1, -1);
        SeaMeeting later = Sea.of("sea 6 3;drifter 2 0 2;helper 1 0 3;helper 1 0 2;port 0 2;");
        later.wind(1, 7);
        check.row("the first hour, though later more would be left", i -> later.meet(0, i), 1, 0);
        check.row("later, without fuel for the first hour", i -> later.meet(1, i), 2, 2);
    }

    private void routeWithMostFuel() {
        check.about("ROUTE: the COURSES by which it does then, with most FUEL left");
        SeaMeeting sea = Sea.of("sea 5 5;drifter 4 2 0;helper 2 2 99;port 0 0;");
        sea.wind(0, 5);
        check.row("by the cheaper one of two ways", k -> sea.route(0, k), 4, 2, -1);
        check.row("meet", i -> sea.meet(0, i), 2, 94);
        sea.wind(0, 1);
        check.row("by the other one", k -> sea.route(0, k), 2, 4, -1);
        check.row("meet", i -> sea.meet(0, i), 2, 94);
        SeaMeeting drifts = Sea.of("sea 5 3;current 0 0 1 0 e;drifter 0 0 0;helper 3 1 4;port 0 2;wind o w;");
        check.row("with the wind of hour 1", k -> drifts.route(0, k), 0, 6, -1);
        check.row("meet with the wind of hour 1", i -> drifts.meet(0, i), 2, 2);
        drifts.wind(0, 6);
        check.row("with the wind of hour 0", k -> drifts.route(0, k), 6, 0, -1);
        check.row("meet with the wind of hour 0", i -> drifts.meet(0, i), 2, 3);
    }

    private void routeOfSeveral() {
        check.about("of several the first row, the least COURSE first");
        SeaMeeting sea = Sea.of("sea 5 5;drifter 4 2 0;helper 2 2 6;port 0 0;");
        check.row("of 2 4, 3 3 and 4 2", k -> sea.route(0, k), 2, 4, -1);
        SeaMeeting west = Sea.of("sea 5 5;drifter 0 2 0;helper 2 2 6;port 0 0;");
        check.row("of 6 8, 7 7 and 8 6", k -> west.route(0, k), 6, 8, -1);
        SeaMeeting north = Sea.of("sea 5 5;drifter 2 4 0;helper 2 2 6;port 0 0;");
        check.row("of 1 1, 2 8 and 8 2", k -> north.route(0, k), 1, 1, -1);
        SeaMeeting waits = Sea.of("sea 5 3;current 0 0 1 0 e;drifter 0 0 0;helper 3 1 4;port 0 2;");
        check.row("of 0 6 and 6 0", k -> waits.route(0, k), 0, 6, -1);
        SeaMeeting held = Sea.of("sea 5 3;drifter 3 1 0;helper 0 1 9;port 0 0;land 1 2;");
        check.row("of 3 2 4 and others", k -> held.route(0, k), 3, 2, 4, -1);
    }

    private void leastFuel() {
        check.about("LEAST FUEL by n HOURS: with which the HELPER, wherever it is now, can MEET in n HOURS or less (as if "
                + "it had so much)");
        SeaMeeting sea = Sea.of("sea 6 3;wind o w;drifter 0 0 0;helper 2 0 0;port 0 2;tank 3;");
        check.row("least", n -> sea.least(0, n), -1, -1, 4, 4, 2, 2, 2);
        check.due("least by 60", 2, () -> sea.least(0, 60));
        SeaMeeting or = Sea.of("sea 6 3;drifter 0 0 1;helper 2 0 99;port 0 2;");
        or.wind(0, 3);
        or.wind(1, 1);
        or.wind(2, 1);
        check.row("in n or less: dearer later", n -> or.least(0, n), -1, 5, 2, 2, 2);
        SeaMeeting now = Sea.of("sea 6 3;wind e;drifter 2 0 1;helper 2 0 0;port 0 2;");
        check.row("that it meets now counts in each", n -> now.least(0, n), 0, 0, 0);
        SeaMeeting sea20 = Sea.of("sea 20 12;wind w;drifter 19 11 0;helper 0 0 1;port 0 0;tank 1;");
        check.due("across the sea in 18", -1, () -> sea20.least(0, 18));
        check.due("across the sea in 19, more than the tank", 19 * 4, () -> sea20.least(0, 19));
        SeaMeeting never = Sea.of("sea 3 3;land 0 1;land 1 1;land 1 0;drifter 0 0 0;helper 2 2 99;port 2 2;");
        check.due("by none (nor any)", -1, () -> never.least(0, 60));
    }

    private void reach() {
        check.about("REACH in n HOURS: CELLS in which it can be then");
        SeaMeeting sea = Sea.of("sea 6 3;current 0 1 5 1 e;drifter 0 0 0;helper 0 1 0;helper 0 1 3;port 0 2;");
        check.row("without fuel: one cell each", n -> sea.reach(0, n), 1, 1, 1, 1, 1, 1, 1);
        check.row("not those where it was", n -> sea.most(0, n, 1, 1), -1, 0, -1, -1);
        check.row("by one course", n -> sea.reach(1, n), 1, 6, 9);
        SeaMeeting land = Sea.of("sea 3 3;land 0 0;land 1 1;drifter 2 2 0;helper 0 1 99;port 2 2;");
        check.row("no land", n -> land.reach(0, n), 1, 4, 7, 7);
    }

    // Terms 2: relay.

    private static SeaMeeting relay(String helpers) {
        return Sea.of("sea 6 3;drifter 5 0 0;port 0 2;" + helpers);
    }

    private void relayOfAllFuel() {
        check.about("b gives a all of its FUEL, a having as much as it can have there then, b as much as it can");
        check.due("with just enough", 4, () -> relay("helper 1 0 3;helper 2 0 12;").relay(0, 1));
        check.due("with one too little", -1, () -> relay("helper 1 0 0;helper 2 0 11;").relay(0, 1));
        check.due("a waits for b", 5, () -> relay("helper 1 0 0;helper 2 0 15;").relay(0, 1));
        check.due("a waits for b, with one too little", -1, () -> relay("helper 1 0 0;helper 2 0 14;").relay(0, 1));
        check.due("b waits for a", 4, () -> relay("helper 1 0 3;helper 2 0 9;").relay(0, 1));
        check.due("b waits for a, with one too little", -1, () -> relay("helper 1 0 3;helper 2 0 8;").relay(0, 1));
        check.due("the other way round: a waits for b", 4, () -> relay("helper 1 0 3;helper 2 0 9;").relay(1, 0));
        check.due("b without fuel gives 0", 5, () -> relay("helper 0 0 15;helper 1 0 0;").relay(0, 1));
    }

    private void relayToTheTank() {
        check.about("(a has TANK at most then)");
        String helpers = "helper 2 0 0;helper 2 0 99;";
        check.due("a tank of 9", 3, () -> relay("tank 99;" + helpers + "helper 0 0 9;").relay(0, 1));
        check.due("a tank that is just enough", 3, () -> relay(helpers + "tank 9;").relay(0, 1));
        check.due("a tank of one too little", -1, () -> relay(helpers + "tank 8;").relay(0, 1));
        SeaMeeting both = relay("helper 2 0 8;helper 2 0 8;tank 8;");
        check.due("both tanks full: given later, where it is enough", 3, () -> both.relay(0, 1));
        SeaMeeting full = Sea.of("sea 6 3;drifter 2 0 0;helper 0 0 9;helper 0 0 0;port 0 0;tank 5;");
        check.due("a has more than the tank", 2, () -> full.meet(0, 0));
        check.due("but not behind the giving", -1, () -> full.relay(0, 1));
    }

    private void relayInOneCell() {
        check.about("at one HOUR at which both can be in one CELL");
        check.due("never", -1, () -> relay("helper 2 0 2;helper 3 0 2;").relay(0, 1));
        check.due("in one cell too late for it", -1, () -> relay("helper 0 0 3;helper 2 0 3;").relay(0, 1));
        SeaMeeting alone = relay("helper 4 0 3;helper 0 2 5;");
        check.due("a could meet alone", 1, () -> alone.meet(0, 0));
        check.due("but b can't be there", -1, () -> alone.relay(0, 1));
        SeaMeeting round = Sea.of("sea 6 3;current 0 0 4 0 e;current 5 0 5 0 n;current 1 1 5 1 w;current 0 1 0 1 s;"
                + "drifter 0 0 0;helper 0 0 0;helper 2 0 0;port 0 2;");
        check.due("a is carried round with the drifter", 0, () -> round.meet(0, 0));
        check.due("b is carried behind it, in the same cells at other hours", -1, () -> round.relay(0, 1));
    }

    private void relayNow() {
        check.about("(now, too): RELAY");
        check.due("given now", 3, () -> relay("helper 2 0 0;helper 2 0 9;").relay(0, 1));
        check.due("given now, and met now", 0, () -> relay("helper 5 0 0;helper 5 0 0;").relay(0, 1));
    }

    private void relayAtTheHourOfGiving() {
        check.about("The first HOUR at which a can MEET so (at the HOUR of giving, too)");
        check.due("a waits in the drifter's cell", 2, () -> relay("helper 5 0 0;helper 3 0 6;").relay(0, 1));
        check.due("b waits in the drifter's cell", 2, () -> relay("helper 3 0 6;helper 5 0 0;").relay(0, 1));
        check.due("not ahead of the giving", 3, () -> relay("helper 4 0 99;helper 2 0 3;").relay(0, 1));
        check.due("the first one of several givings", 2, () -> relay("helper 3 0 99;helper 4 0 99;").relay(0, 1));
    }

    private void relaySixty() {
        check.about("AHEAD is looked at no more than 60 HOURS from now on: RELAY");
        Supplier<SeaMeeting> maker = () -> Sea.of("sea 4 3;drifter 1 0 0;helper 0 0 0;helper 0 0 1;port 0 2;");
        SeaMeeting last = maker.get();
        last.wind(59, 3);
        check.due("in 60", 60, () -> last.relay(0, 1));
        SeaMeeting late = maker.get();
        late.wind(60, 3);
        check.due("in 61", -1, () -> late.relay(0, 1));
        SeaMeeting given = Sea.of("sea 4 3;drifter 1 0 0;helper 1 0 0;helper 0 0 1;port 0 2;");
        given.wind(59, 3);
        check.due("given in 60", 60, () -> given.relay(0, 1));
    }

    // Terms 2: home.

    private void homeBehindItsRoute() {
        check.about("HOME: behind its ROUTE, with what FUEL it has left, from that HOUR and CELL on");
        SeaMeeting sea = Sea.of("sea 6 3;drifter 2 0 2;helper 1 0 3;port 1 0;");
        sea.wind(1, 7);
        check.row("met at the earliest, though later would do", i -> sea.meet(0, i), 1, 0);
        check.row("home", i -> sea.home(0, i), -1, -1);
        SeaMeeting passing = Sea.of("sea 6 3;drifter 2 0 0;helper 0 0 99;port 1 0;");
        check.row("in the port's cell ahead of the meeting is not home", i -> passing.home(0, i), 3, 87);
        SeaMeeting never = Sea.of("sea 6 3;drifter 2 0 0;helper 0 0 5;port 0 0;");
        check.row("without an EARLIEST", i -> never.home(0, i), -1, -1);
        SeaMeeting there = Sea.of("sea 6 3;drifter 2 0 0;helper 2 0 0;port 2 0;");
        check.row("now", i -> there.home(0, i), 0, 0);
    }

    private void homeCostsTwice() {
        check.about("it TOWS: each COURSE costs twice as much");
        SeaMeeting sea = Sea.of("sea 6 3;drifter 2 0 0;helper 2 0 6;port 3 0;");
        check.row("with just enough", i -> sea.home(0, i), 1, 0);
        sea.fuel(0, 5);
        check.row("with one too little", i -> sea.home(0, i), -1, -1);
        SeaMeeting wind = Sea.of("sea 6 3;wind e w;drifter 2 0 0;helper 2 0 9;port 3 0;");
        check.row("with the wind: 2", i -> wind.home(0, i), 1, 7);
        wind.wind(0, 7);
        check.row("against it: 10, so it waits", i -> wind.home(0, i), 3, 7);
        wind.fuel(0, 10);
        check.row("against it, with just enough", i -> wind.home(0, i), 1, 0);
        SeaMeeting carried = Sea.of("sea 6 3;current 0 0 5 0 e;drifter 2 0 0;helper 2 0 0;port 5 0;");
        check.row("0 costs 0", i -> carried.home(0, i), 3, 0);
    }

    private void homeTows() {
        check.about("the DRIFTER is where it is (HOME)");
        SeaMeeting sea = Sea.of("sea 9 3;wind w;drifter 2 0 1;helper 1 0 30;port 4 0;");
        check.row("meet", i -> sea.meet(0, i), 1, 30);
        check.row("the wind doesn't carry the drifter away", i -> sea.home(0, i), 4, 4);
        SeaMeeting calm = Sea.of("sea 9 3;current 2 1 3 1 w;drifter 3 1 0;helper 1 1 6;port 0 1;");
        check.row("meet where the currents end", i -> calm.meet(0, i), 2, 6);
        check.row("from there on by courses", i -> calm.home(0, i), 3, 0);
    }

    private void homeFirstHour() {
        check.about("the first HOUR from now on at which it can be in the PORT's CELL");
        SeaMeeting comes = Sea.of("sea 6 3;drifter 0 0 0;helper 0 0 99;port 5 0 w;");
        check.row("a port that comes", i -> comes.home(0, i), 3, 87);
        comes.fuel(0, 11);
        check.row("with fuel for one course", i -> comes.home(0, i), 4, 5);
        comes.fuel(0, 5);
        check.row("with fuel for none", i -> comes.home(0, i), 5, 5);
        SeaMeeting goes = Sea.of("sea 6 3;drifter 0 0 0;helper 0 0 18;port 2 0 e;");
        check.row("a port that goes", i -> goes.home(0, i), -1, -1);
        goes.fuel(0, 30);
        check.row("a port that is held at the edge", i -> goes.home(0, i), 5, 0);
        SeaMeeting round = Sea.of("sea 6 3;drifter 0 0 0;helper 0 0 0;port 1 0 w e;");
        check.row("a port that comes and goes", i -> round.home(0, i), 1, 0);
        SeaMeeting late = Sea.of("sea 6 3;drifter 0 0 0;helper 1 0 9;port 0 1 s;");
        check.row("a port that is there when they meet", i -> late.home(0, i), 1, 6);
    }

    private void homeMostFuel() {
        check.about("and the most FUEL it can have left then (HOME)");
        SeaMeeting sea = Sea.of("sea 6 4;drifter 0 1 0;helper 0 1 50;port 2 1;");
        check.row("by any way", i -> sea.home(0, i), 2, 38);
        sea.wind(0, 2);
        check.row("by the north", i -> sea.home(0, i), 2, 50 - 2 - 6);
        sea.wind(1, 2);
        check.row("by the south", i -> sea.home(0, i), 2, 50 - 4 - 4);
        SeaMeeting meets = Sea.of("sea 6 4;wind o;drifter 2 1 0;helper 0 1 50;port 2 1;");
        meets.wind(0, 4);
        check.row("with most left of its route, too", i -> meets.home(0, i), 2, 46);
    }

    private void homeSixty() {
        check.about("(no more than 60 HOURS from now on): HOME");
        check.row("towed in hour 59", i -> towed(0, 59).home(0, i), 60, 0);
        check.row("towed in hour 60", i -> towed(0, 60).home(0, i), -1, -1);
        check.row("met in 1, towed in hour 59", i -> towed(1, 59).home(0, i), 60, 0);
        check.row("met in 1, towed in hour 60", i -> towed(1, 60).home(0, i), -1, -1);
        SeaMeeting there = Sea.of("sea 3 3;drifter 0 0 1;helper 1 0 0;port 1 0;");
        there.wind(59, 3);
        check.row("met in 60 in the port's cell", i -> there.home(0, i), 60, 0);
        SeaMeeting last = Sea.of("sea 3 3;drifter 0 0 1;helper 1 0 0;port 2 0;");
        last.wind(59, 3);
        check.row("met in 60 beside the port", i -> last.meet(0, i), 60, 0);
        check.row("is not home", i -> last.home(0, i), -1, -1);
    }

    /** Has fuel for a tow in the wind of one hour alone, and meets so many hours from now. */
    private static SeaMeeting towed(int met, int hour) {
        SeaMeeting sea = Sea.of("sea 5 3;drifter 1 0 0;helper " + (1 + met) + " 0 " + (2 + 3 * met) + ";port 0 0;");
        sea.wind(hour, 7);
        return sea;
    }

    // Terms 3.

    private void acts() {
        check.about("ACTS: text() without a FAULT, hour(), fuel(), wind()");
        SeaMeeting sea = new SeaMeeting();
        sea.feed(0, 0, 0, 0, 0);
        check.due("told(12) behind feed()", 0, () -> sea.told(12));
        sea.text(20);
        check.due("told(12) behind text() with a FAULT", 0, () -> sea.told(12));
        Sea.tell(sea, "sea 3 3;drifter 0 0 0;helper 2 2 10;port 1 1;");
        check.due("told(12) behind text()", 1, () -> sea.told(12));
        sea.hour(0, 0, 0);
        check.due("told(12) behind hour()", 2, () -> sea.told(12));
        sea.fuel(0, 10);
        check.due("told(12) behind fuel() as it was", 3, () -> sea.told(12));
        sea.wind(1, 0);
        check.due("told(12) behind wind() as it was", 4, () -> sea.told(12));
        Check.outcome(() -> sea.hour(9, 0, 0));
        Check.outcome(() -> sea.fuel(1, 0));
        Check.outcome(() -> sea.wind(0, 0));
        Check.outcome(() -> sea.text(1));
        check.due("told(12) behind refused calls", 4, () -> sea.told(12));
        check.row("undo()", i -> sea.undo(), 3, 2, 1, 0, -1, -1);
        check.due("told(12)", 0, () -> sea.told(12));
    }

    private interface Act {
        void on(SeaMeeting sea);
    }

    private void undoOne() {
        check.about("undo() takes the latest one back that is not yet");
        Supplier<SeaMeeting> maker = () -> {
            SeaMeeting sea = Sea.of("sea 5 3;current 0 0 4 2 e;wind s n;drifter 0 0 1;helper 4 2 5;helper 1 2 20;"
                    + "port 4 0 n w o;land 2 1;tank 50;");
            sea.wind(1, 7);
            sea.hour(0, 5, 0);
            return sea;
        };
        Act[] acts = {
            sea -> sea.hour(0, 0, 0), sea -> sea.hour(0, 2, 0), sea -> sea.fuel(0, 50), sea -> sea.fuel(1, 0),
            sea -> sea.wind(1, 2), sea -> sea.wind(560, 8),
            sea -> Sea.tell(sea, "sea 20 12;drifter 9 9 9;helper 2 2 8;helper 1 1 1;helper 3 3 3;port 8 8 n;wind e;"),
            sea -> Sea.tell(sea, "sea 3 3;drifter 0 0 0;helper 2 2 10;port 1 1;")
        };
        for (int i = 0; i < acts.length; i++) {
            Act act = acts[i];
            Supplier<SeaMeeting> made = () -> {
                SeaMeeting sea = maker.get();
                act.on(sea);
                sea.undo();
                return sea;
            };
            new Twins(check, "act " + i + " taken back", 40, maker, made).same(true);
        }
    }

    private void undoOfEight() {
        check.about("of the latest 8 (undo)");
        for (int acts : new int[] {7, 8, 9, 20}) {
            SeaMeeting sea = new SeaMeeting();
            for (int i = 1; i <= acts; i++) {
                sea.fuel(0, 100 + i);
                int due = Math.min(i, 8);
                check.due("told(12) behind " + i, due, () -> sea.told(12));
            }
            for (int left = Math.min(acts, 8) - 1; left >= 0; left--) {
                int due = left;
                int fuel = acts - Math.min(acts, 8) + left;
                check.due("undo() of " + acts, due, () -> sea.undo());
                check.due("fuel behind undo() of " + acts, fuel == 0 ? 10 : 100 + fuel, () -> sea.helper(0, 2));
            }
            check.due("one undo() too many of " + acts, -1, () -> sea.undo());
        }
    }

    private void undoThenAct() {
        check.about("the latest one that is not yet taken back: an ACT behind an undo() is the latest");
        SeaMeeting sea = new SeaMeeting();
        sea.fuel(0, 101);
        sea.fuel(0, 102);
        sea.fuel(0, 103);
        check.row("undo()", i -> sea.undo(), 2, 1);
        check.due("fuel() behind it: what it was", 101, () -> sea.fuel(0, 104));
        check.due("told(12)", 2, () -> sea.told(12));
        check.due("undo() of it", 1, () -> sea.undo());
        check.due("fuel then", 101, () -> sea.helper(0, 2));
        check.due("undo() of the first", 0, () -> sea.undo());
        check.due("fuel at first", 10, () -> sea.helper(0, 2));
        check.due("undo() of none", -1, () -> sea.undo());
        check.due("fuel still", 10, () -> sea.helper(0, 2));
    }

    private void askedNothingChanges() {
        check.about("Asked, nothing stays changed");
        Supplier<SeaMeeting> maker = () -> {
            SeaMeeting sea = Sea.of("sea 5 3;current 0 0 4 2 e;wind s n;drifter 0 0 2;helper 4 2 5;helper 1 2 20;"
                    + "port 4 0 n w o;land 2 1;tank 50;");
            sea.wind(3, 7);
            sea.feed(0x73656120, 0x3420333b, 0, 0, 0);
            return sea;
        };
        Supplier<SeaMeeting> asked = () -> {
            SeaMeeting sea = maker.get();
            Sea.shown(sea);
            sea.relay(0, 1);
            sea.relay(1, 0);
            sea.most(1, 60, 4, 1);
            sea.least(0, 3);
            sea.reach(1, 60);
            sea.cost(8, 59);
            sea.status(0);
            return sea;
        };
        new Twins(check, "behind asking", 200, maker, asked).same(true);
        check.same("status() behind asking", "0 0 0", Sea.statusOf(asked.get()));
    }
}
