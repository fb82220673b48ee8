import java.util.function.Supplier;

/** The text in terms 1, and promises 2 to 4: each sentence that names a boundary case, by a test of its own. */
public final class TextEdgeTest {
    private static final Class<IllegalArgumentException> ARGUMENT = IllegalArgumentException.class;

    private static final String SEA = "sea 4 5;";
    private static final String SHIPS = "drifter 0 0 0;helper 1 1 5;port 2 2;";

    private final Check check = new Check("texts");

    public static void main(String[] args) {
        TextEdgeTest test = new TextEdgeTest();
        test.fourHundredBytes();
        test.wide();
        test.high();
        test.seaFirst();
        test.noneNeeded();
        test.anyOrder();
        test.cellsOfLand();
        test.boxes();
        test.lastCurrentCounts();
        test.winds();
        test.leeway();
        test.cellsOfShips();
        test.fuel();
        test.threeHelpers();
        test.turns();
        test.tank();
        test.tankWithout();
        test.onceEach();
        test.digits();
        test.letters();
        test.blanks();
        test.noOtherBlanks();
        test.prefixes();
        test.whatCanNotStand();
        test.secondOfOnce();
        test.twentyFifth();
        test.noSuchNumber();
        test.boxesTheOtherWayRound();
        test.fuelAboveTank();
        test.onLand();
        test.landUnderShips();
        test.fourthHelper();
        test.leastByte();
        test.firstInTheList();
        test.notAllTold();
        test.feed();
        test.feedHighestFirst();
        test.feedFull();
        test.textOfSomeBytes();
        test.textEmptiesTheTape();
        test.tellsAllAnew();
        test.faultLessTen();
        test.allButTheTapeStays();
        test.tapeStays();
        test.faultPlace();
        test.check.end();
    }

    private void fault(int kind, int place, String text) {
        SeaMeeting sea = new SeaMeeting();
        Sea.feed(sea, text);
        check.due("text of '" + text + "'", kind - 10, () -> sea.text(text.length()));
        check.due("fault() of '" + text + "'", place, () -> sea.fault());
        check.due("print() behind '" + text + "'", 4102, () -> sea.print());
    }

    private SeaMeeting stands(int helpers, String text) {
        SeaMeeting sea = new SeaMeeting();
        Sea.feed(sea, text);
        check.due("text of '" + text + "'", helpers, () -> sea.text(text.length()));
        check.due("fault() of '" + text + "'", -1, () -> sea.fault());
        return sea;
    }

    // What can be told.

    private void fourHundredBytes() {
        check.about("A TEXT has up to 400 bytes");
        String ships = SHIPS + "tank 77;";
        SeaMeeting last = stands(1, SEA + " ".repeat(392 - ships.length()) + ships);
        check.due("told(4) of the last sentence", 77, () -> last.told(4));
        fault(1, 399, SEA + SHIPS + " ".repeat(355) + "x");
        fault(1, 400, SEA + SHIPS + " ".repeat(349) + "tank 77");
        fault(5, 400, SEA + " ".repeat(392));
        fault(1, 0, "s".repeat(400));
        fault(1, 400, " ".repeat(400));
        fault(2, 4, "sea " + "9".repeat(396));
    }

    private void wide() {
        check.about("WIDE (3 to 20)");
        for (int wide : new int[] {3, 4, 19, 20}) {
            SeaMeeting sea = stands(1, "sea " + wide + " 3;" + SHIPS);
            check.due("told(0)", wide, () -> sea.told(0));
        }
        for (int wide : new int[] {0, 1, 2, 21, 22, 100}) {
            fault(2, 4, "sea " + wide + " 3;" + SHIPS);
        }
    }

    private void high() {
        check.about("HIGH (3 to 12)");
        for (int high : new int[] {3, 4, 11, 12}) {
            SeaMeeting sea = stands(1, "sea 3 " + high + ";" + SHIPS);
            check.due("told(1)", high, () -> sea.told(1));
        }
        for (int high : new int[] {0, 1, 2, 13, 14, 20, 100}) {
            fault(2, 6, "sea 3 " + high + ";" + SHIPS);
        }
    }

    private void seaFirst() {
        check.about("\"sea\" N N \";\" stands first, and once");
        fault(1, 0, SHIPS + SEA);
        fault(1, 0, "tank 9;" + SEA + SHIPS);
        fault(1, 8, SEA + SEA + SHIPS);
        fault(1, 8 + SHIPS.length(), SEA + SHIPS + SEA);
    }

    private void noneNeeded() {
        check.about("{ \"land\" .. | \"tank\" .. }: none of land, current, wind, tank is needed");
        SeaMeeting sea = stands(1, SEA + SHIPS);
        check.row("told", sea::told, 4, 5, 0, 1, 999, 0, 0, 0, 0, 2, 2, 0, 1);
    }

    private void anyOrder() {
        check.about("{ .. | .. }: in any order");
        String[] parts = {"land 3 0;", "current 0 0 3 4 s;", "wind ne;", "drifter 0 0 4;", "helper 1 1 5;",
            "port 2 2 w;", "tank 7;"};
        String due = Sea.stateOf(Sea.of(SEA + String.join("", parts)));
        for (int first = 0; first < parts.length; first++) {
            StringBuilder forth = new StringBuilder(SEA);
            StringBuilder back = new StringBuilder(SEA);
            for (int i = 0; i < parts.length; i++) {
                forth.append(parts[(first + i) % parts.length]);
                back.append(parts[(first + parts.length - i) % parts.length]);
            }
            check.same(forth.toString(), due, Sea.stateOf(stands(1, forth.toString())));
            check.same(back.toString(), due, Sea.stateOf(stands(1, back.toString())));
        }
    }

    private void cellsOfLand() {
        check.about("\"land\" N N: an x, y off the SEA");
        SeaMeeting sea = stands(1, SEA + SHIPS + "land 3 4;land 3 0;land 0 4;land 3 4;");
        check.due("told(6)", 3, () -> sea.told(6));
        check.row("cells", at -> sea.cell(at % 4, at / 4, 0), 0, 0, 0, 1, 0, 0, 0, 0, 0, 0, 0, 0, 0, 0, 0, 0, 1, 0, 0, 1);
        fault(2, 13, SEA + "land 4 0;");
        fault(2, 15, SEA + "land 0 5;");
        SeaMeeting most = stands(1, "sea 20 12;" + SHIPS + "land 19 11;land 0 11;land 19 0;");
        check.due("told(6)", 3, () -> most.told(6));
        fault(2, 15, "sea 20 12;land 20 11;");
        fault(2, 18, "sea 20 12;land 19 12;");
    }

    private void boxes() {
        check.about("a CURRENT of all CELLS of a box (the least x, y, the greatest x, y)");
        for (int box = 0; box < 4 * 5 * 4 * 5; box++) {
            int west = box % 4;
            int south = box / 4 % 5;
            int east = box / 20 % 4;
            int north = box / 80;
            if (west <= east && south <= north) {
                SeaMeeting sea = stands(1, SEA + "current " + west + " " + south + " " + east + " " + north + " sw;"
                        + SHIPS);
                for (int at = 0; at < 20; at++) {
                    int x = at % 4;
                    int y = at / 4;
                    boolean in = x >= west && x <= east && y >= south && y <= north;
                    check.due("cell(" + x + ", " + y + ", 1) of box " + box, in ? 6 : 0, () -> sea.cell(x, y, 1));
                }
            }
        }
    }

    private void lastCurrentCounts() {
        check.about("told again the last counts (CURRENT)");
        SeaMeeting sea = stands(1, SEA + "current 0 0 3 4 n;current 1 1 2 3 nw;current 2 0 2 4 o;current 1 1 1 1 e;"
                + SHIPS);
        check.row("currents", at -> sea.cell(at % 4, at / 4, 1),
                1, 1, 0, 1, 1, 3, 0, 1, 1, 8, 0, 1, 1, 8, 0, 1, 1, 1, 0, 1);
    }

    private void winds() {
        check.about("WINDS (1 to 24)");
        fault(1, 12, SEA + "wind;");
        fault(1, 14, SEA + "wind  ;");
        SeaMeeting one = stands(1, SEA + "wind s;" + SHIPS);
        check.row("a row of 1", one::blows, 5, 5);
        SeaMeeting all = stands(1, SEA + "wind" + " n".repeat(22) + " e w;" + SHIPS);
        check.row("a row of 24 from 21 on", i -> all.blows(21 + i), 1, 3, 7, 1, 1);
        check.row("a row of 24 from 45 on", i -> all.blows(45 + i), 1, 3, 7, 1, 1);
        fault(1, 13 + 48, SEA + "wind" + " n".repeat(25) + ";" + SHIPS);
    }

    private void leeway() {
        check.about("LEEWAY 0 to 9");
        for (int leeway = 0; leeway <= 9; leeway++) {
            SeaMeeting sea = stands(1, SEA + "drifter 0 0 " + leeway + ";helper 1 1 5;port 2 2;");
            check.due("told(5)", leeway, () -> sea.told(5));
        }
        for (int leeway : new int[] {10, 11, 99, 100}) {
            fault(2, 20, SEA + "drifter 0 0 " + leeway + ";helper 1 1 5;port 2 2;");
        }
    }

    private void cellsOfShips() {
        check.about("the DRIFTER, a HELPER, the PORT (its CELL): an x, y off the SEA");
        SeaMeeting sea = stands(1, SEA + "drifter 3 4 0;helper 3 0 5;port 0 4;");
        check.row("told from 7 on", i -> sea.told(7 + i), 3, 4, 0, 4);
        check.row("helper 0", what -> sea.helper(0, what), 3, 0, 5, 0);
        fault(2, 16, SEA + "drifter 4 4 0;");
        fault(2, 18, SEA + "drifter 3 5 0;");
        fault(2, 15, SEA + "helper 4 4 0;");
        fault(2, 17, SEA + "helper 3 5 0;");
        fault(2, 13, SEA + "port 4 4;");
        fault(2, 15, SEA + "port 3 5;");
        SeaMeeting one = stands(3, SEA + "drifter 1 1 0;port 1 1;helper 1 1 0;helper 1 1 1;helper 1 1 2;");
        check.row("all in one cell", i -> one.helper(i, 3), 1, 1, 1);
    }

    private void fuel() {
        check.about("FUEL 0 to 999");
        for (int fuel : new int[] {0, 1, 998, 999}) {
            SeaMeeting sea = stands(1, SEA + "helper 1 1 " + fuel + ";drifter 0 0 0;port 2 2;");
            check.due("helper(0, 2)", fuel, () -> sea.helper(0, 2));
        }
        fault(2, 19, SEA + "helper 1 1 1000;drifter 0 0 0;port 2 2;");
        fault(2, 19, SEA + "helper 1 1 9990;drifter 0 0 0;port 2 2;");
    }

    private void threeHelpers() {
        check.about("a HELPER (3 at most, numbered as told)");
        String others = "drifter 0 0 0;port 2 2;";
        SeaMeeting three = stands(3, SEA + "helper 3 3 7;" + others + "helper 1 2 5;helper 2 1 9;");
        check.row("x", i -> three.helper(i, 0), 3, 1, 2);
        check.row("y", i -> three.helper(i, 1), 3, 2, 1);
        check.row("fuel", i -> three.helper(i, 2), 7, 5, 9);
        check.due("told(3)", 3, () -> three.told(3));
        SeaMeeting two = stands(2, SEA + "helper 3 3 7;" + others + "helper 1 2 5;");
        check.due("told(3)", 2, () -> two.told(3));
        fault(4, 8 + 52 - 13, SEA + "helper 3 3 7;helper 1 2 5;helper 2 1 9;helper 0 0 0;" + others);
    }

    private void turns() {
        check.about("the PORT (its DIRECTIONS: 0 to 12 of them)");
        String others = "drifter 0 0 0;helper 1 1 5;";
        for (int length = 0; length <= 12; length++) {
            String row = length == 0 ? "" : " o".repeat(length - 1) + " n";
            SeaMeeting sea = stands(1, SEA + "port 0 0" + row + ";" + others);
            int hours = length;
            check.due("y in " + hours, hours == 0 ? 0 : 1, () -> sea.drift(hours, 3));
            check.due("y ahead of it", 0, () -> sea.drift(Math.max(0, hours - 1), 3));
            check.due("y in twice as much", hours == 0 ? 0 : 2, () -> sea.drift(2 * hours, 3));
        }
        fault(1, 16 + 25, SEA + "port 0 0" + " n".repeat(13) + ";" + others);
    }

    private void tank() {
        check.about("TANK (1 to 999)");
        for (int tank : new int[] {1, 2, 998, 999}) {
            SeaMeeting sea = stands(1, SEA + SHIPS + "tank " + tank + ";");
            check.due("told(4)", tank, () -> sea.told(4));
            check.due("fuel(0, all)", 5, () -> sea.fuel(0, tank));
        }
        int at = 8 + SHIPS.length() + 5;
        fault(2, at, SEA + SHIPS + "tank 0;");
        fault(2, at, SEA + SHIPS + "tank 000;");
        fault(2, at, SEA + SHIPS + "tank 1000;");
    }

    private void tankWithout() {
        check.about("999 without (TANK)");
        SeaMeeting sea = stands(1, SEA + "tank 9;" + SHIPS);
        check.due("told(4) with", 9, () -> sea.told(4));
        Sea.tell(sea, SEA + SHIPS);
        check.due("told(4) without", 999, () -> sea.told(4));
        check.due("fuel(0, 999)", 5, () -> sea.fuel(0, 999));
        check.refused("fuel(0, 1000)", ARGUMENT, () -> sea.fuel(0, 1000));
    }

    private void onceEach() {
        check.about("\"wind\", \"drifter\", \"port\", \"tank\" once each");
        String text = SEA + SHIPS + "wind n;tank 9;";
        stands(1, text);
        for (String second : new String[] {"wind n;", "drifter 0 0 0;", "port 2 2;", "tank 9;"}) {
            fault(1, text.length(), text + second);
        }
        stands(2, text + "helper 1 1 5;");
        stands(1, text + "land 3 3;land 3 3;current 0 0 0 0 n;current 0 0 0 0 n;");
    }

    private void digits() {
        check.about("N: digits as many as stand there");
        SeaMeeting sea = stands(1, "sea 004 0000000000000000005;drifter 000 00 09;helper 1 1 00000999;port 2 2;");
        check.row("told", sea::told, 4, 5, 0, 1, 999, 9);
        check.due("helper(0, 2)", 999, () -> sea.helper(0, 2));
        fault(2, 4, "sea 45;");
        fault(1, 8, "sea 4 5 6;");
        fault(2, 4, "sea 4294967299 5;");
        fault(2, 4, "sea 18446744073709551619 5;");
        fault(2, 19, SEA + "helper 1 1 4294967296;");
        fault(2, 19, SEA + "helper 1 1 " + "0".repeat(300) + "1000;");
        fault(2, 15, SEA + "land 0 2147483648;");
        stands(1, SEA + "drifter0 0 0;helper1 1 5;port2 2n;");
    }

    private void letters() {
        check.about("words: small letters as many as stand there; D: a word of a DIRECTION");
        for (String word : new String[] {"seas", "se", "SEA", "Sea", "xsea", "oea"}) {
            fault(1, 0, word + " 4 5;" + SHIPS);
        }
        fault(1, 8, SEA + "landn 0 1;" + SHIPS);
        fault(1, 13, SEA + "wind nn;" + SHIPS);
        fault(1, 13, SEA + "wind nen;" + SHIPS);
        fault(1, 13, SEA + "wind en;" + SHIPS);
        fault(1, 13, SEA + "wind wn;" + SHIPS);
        fault(1, 13, SEA + "wind on;" + SHIPS);
        fault(1, 13, SEA + "wind a;" + SHIPS);
        fault(1, 13, SEA + "wind north;" + SHIPS);
        fault(1, 13, SEA + "wind N;" + SHIPS);
        fault(1, 14, SEA + "wind nE;" + SHIPS);
        fault(1, 13, SEA + "wind `;" + SHIPS);
        fault(1, 13, SEA + "wind {;" + SHIPS);
        fault(1, 14, SEA + "wind n{;" + SHIPS);
        fault(1, 15, SEA + "wind n \u00ee;" + SHIPS);
        fault(1, 8, SEA + "windn e;" + SHIPS);
        SeaMeeting all = stands(1, SEA + "wind o n ne e se s sw w nw;" + SHIPS);
        check.row("blows", all::blows, 0, 1, 2, 3, 4, 5, 6, 7, 8, 0);
    }

    private void blanks() {
        check.about("blanks (32) may stand ahead of all these and of \";\", and at the end");
        String text = "sea4 5;drifter0 0 0;helper1 1 5;port2 2n e;wind n ne;tank9;current0 0 1 1n;land3 3;";
        String due = Sea.stateOf(stands(1, text));
        check.same("a blank ahead of all", due, Sea.stateOf(stands(1, " sea 4 5 ; drifter 0 0 0 ; helper 1 1 5 ; "
                + "port 2 2 n e ; wind n ne ; tank 9 ; current 0 0 1 1 n ; land 3 3 ; ")));
        check.same("three blanks ahead of all", due, Sea.stateOf(stands(1, "   sea   4   5   ;   drifter   0   0   0   "
                + ";   helper   1   1   5   ;   port   2   2   n   e   ;   wind   n   ne   ;   tank   9   ;   "
                + "current   0   0   1   1   n   ;   land   3   3   ;   ")));
        for (int at = 1; at <= text.length(); at++) {
            boolean ahead = at == text.length() || text.charAt(at) == ';' || text.charAt(at - 1) == ';'
                    || text.charAt(at - 1) == ' ' || Character.isDigit(text.charAt(at))
                    || Character.isDigit(text.charAt(at - 1));
            if (ahead) {
                stands(1, text.substring(0, at) + " " + text.substring(at));
            }
        }
    }

    private void noOtherBlanks() {
        check.about("blanks (32): nothing else is a blank");
        for (char other : new char[] {0, '\t', '\n', '\r', 31, 33, ',', 127, 128, 160, 255}) {
            fault(1, 3, "sea" + other + "4 5;" + SHIPS);
            fault(1, 5, "sea 4" + other + "5;" + SHIPS);
            fault(1, 7, "sea 4 5" + other + ";" + SHIPS);
            fault(1, 8, SEA + other + SHIPS);
            fault(1, 8 + SHIPS.length(), SEA + SHIPS + other);
            fault(1, 0, other + SEA + SHIPS);
        }
        fault(1, 0, "s ea 4 5;" + SHIPS);
    }

    // Faults.

    /**
     * What a text answers that ends ahead of each of these bytes: L fault 1 at the length, W fault 1 at the word that is
     * cut off, N fault 2 at the number that is cut off, 5 fault 5 at the length, . none.
     */
    private static final String[][] ENDS = {
        {"sea 20 12;", "LWWLLNLLNL"},
        {"land 0 1;", "5WWWLLLLL"},
        {"current 0 0 1 1 se;", "5WWWWWWLLLLLLLLLLLL"},
        {"wind n nw;", "5WWWLLLLLL"},
        {"tank 100;", "5WWWLLLLL"},
        {"drifter 0 0 1;", "5WWWWWWLLLLLLL"},
        {"helper 2 2 98;", "5WWWWWLLLLLLLL"},
        {"port 11 10 sw o;", "5WWWLLLLLLLLLLLL"},
        {"helper 19 11 100;", ".WWWWWLLLLLLLLLLL"},
        {"  ", ".."},
    };

    private void prefixes() {
        check.about("1 at the length, if the text ends too early");
        StringBuilder text = new StringBuilder();
        for (String[] sentence : ENDS) {
            for (int i = 0; i < sentence[0].length(); i++) {
                ends(text.toString(), sentence[1].charAt(i));
                text.append(sentence[0].charAt(i));
            }
        }
        ends(text.toString(), '.');
    }

    private void ends(String text, char due) {
        int word = text.length();
        while (word > 0 && Character.isLetterOrDigit(text.charAt(word - 1))) {
            word--;
        }
        switch (due) {
            case 'L' -> fault(1, text.length(), text);
            case 'W' -> fault(1, word, text);
            case 'N' -> fault(2, word, text);
            case '5' -> fault(5, text.length(), text);
            default -> stands(text.split("helper").length - 1, text);
        }
    }

    private void whatCanNotStand() {
        check.about("1 what can't stand there");
        String[] tokens = ("sea 4 5 ; land 3 0 ; current 0 0 1 1 se ; wind n nw ; drifter 0 0 1 ; helper 2 2 9 ; "
                + "port 1 1 sw ; tank 9 ;").split(" ");
        for (int i = 0; i < tokens.length; i++) {
            boolean number = Character.isDigit(tokens[i].charAt(0));
            boolean end = tokens[i].equals(";");
            boolean endOfNumbers = end && Character.isDigit(tokens[i - 1].charAt(0));
            boolean endToo = tokens[i].equals("nw") || tokens[i].equals("sw");
            for (String token : new String[] {"boat", "seas", ".", "-", "/", ":", "\u00b2"}) {
                wrong(tokens, i, token);
            }
            if (number || endOfNumbers) {
                wrong(tokens, i, "n");
            }
            if (!number) {
                wrong(tokens, i, "1");
            }
            if (!end && !endToo) {
                wrong(tokens, i, ";");
            }
        }
    }

    /** The text with another token in the place of one of its own. */
    private void wrong(String[] tokens, int at, String token) {
        StringBuilder text = new StringBuilder();
        int place = 0;
        for (int i = 0; i < tokens.length; i++) {
            if (i == at) {
                place = text.length();
            }
            text.append(i == at ? token : tokens[i]).append(' ');
        }
        fault(1, place, text.toString());
    }

    private void secondOfOnce() {
        check.about("a second one of once, by its word");
        for (String once : new String[] {"wind n;", "drifter 0 0 0;", "port 0 0;", "tank 9;"}) {
            int at = 8 + once.length();
            String word = once.substring(0, once.indexOf(' '));
            fault(1, at, SEA + once + once + SHIPS);
            fault(1, at, SEA + once + word);
            fault(1, at, SEA + once + word + " 99 99 99;");
            fault(1, at + 2, SEA + once + "  " + word + ";");
            fault(1, at + 9, SEA + once + "land 3 3;" + once);
        }
    }

    private void twentyFifth() {
        check.about("a 25th WIND, a 13th DIRECTION of the PORT");
        String winds = SEA + "wind" + " n".repeat(24);
        stands(1, winds + ";" + SHIPS);
        stands(1, winds + "  ;" + SHIPS);
        fault(1, 8 + 4 + 48 + 1, winds + " n;" + SHIPS);
        fault(1, 8 + 4 + 48 + 1, winds + " o;" + SHIPS);
        fault(1, 8 + 4 + 48 + 3, winds + "   nw");
        fault(1, 8 + 4 + 48, winds);
        String turns = SEA + "port 2 2" + " n".repeat(12);
        stands(1, turns + ";drifter 0 0 0;helper 1 1 5;");
        stands(1, turns + "  ;drifter 0 0 0;helper 1 1 5;");
        fault(1, 8 + 8 + 24 + 1, turns + " n;drifter 0 0 0;helper 1 1 5;");
        fault(1, 8 + 8 + 24 + 3, turns + "   sw");
        fault(1, 8 + 8 + 24, turns);
    }

    /** Numbers from least to most can stand between these two parts of a text, others are none such. */
    private void slot(String ahead, int least, int most, String behind) {
        for (int number : new int[] {least, least + 1, most - 1, most}) {
            stands(1, ahead + number + behind);
        }
        for (int number : new int[] {most + 1, most + 2, 10 * most + 10, Integer.MAX_VALUE}) {
            fault(2, ahead.length(), ahead + number + behind);
            fault(2, ahead.length(), ahead + number);
        }
        for (int number = 0; number < least; number++) {
            fault(2, ahead.length(), ahead + number + behind);
        }
    }

    private void noSuchNumber() {
        check.about("2 a number that is none such (an x, y off the SEA ..)");
        slot("sea ", 3, 20, " 5;" + SHIPS);
        slot("sea 4 ", 3, 12, ";" + SHIPS);
        slot(SEA + "land ", 0, 3, " 3;" + SHIPS);
        slot(SEA + "land 3 ", 0, 4, ";" + SHIPS);
        slot(SEA + "current ", 0, 3, " 0 3 4 n;" + SHIPS);
        slot(SEA + "current 0 ", 0, 4, " 3 4 n;" + SHIPS);
        slot(SEA + "current 2 1 ", 2, 3, " 4 n;" + SHIPS);
        slot(SEA + "current 2 1 3 ", 1, 4, " n;" + SHIPS);
        slot(SEA + "drifter ", 0, 3, " 0 0;helper 1 1 5;port 2 2;");
        slot(SEA + "drifter 0 ", 0, 4, " 0;helper 1 1 5;port 2 2;");
        slot(SEA + "drifter 0 0 ", 0, 9, ";helper 1 1 5;port 2 2;");
        slot(SEA + "helper ", 0, 3, " 1 5;drifter 0 0 0;port 2 2;");
        slot(SEA + "helper 1 ", 0, 4, " 5;drifter 0 0 0;port 2 2;");
        slot(SEA + "helper 1 1 ", 0, 999, ";drifter 0 0 0;port 2 2;");
        slot(SEA + "tank 7;helper 1 1 ", 0, 7, ";drifter 0 0 0;port 2 2;");
        slot(SEA + "port ", 0, 3, " 2;drifter 0 0 0;helper 1 1 5;");
        slot(SEA + "port 2 ", 0, 4, " n;drifter 0 0 0;helper 1 1 5;");
        slot(SEA + SHIPS + "tank ", 1, 999, ";");
    }

    private void boxesTheOtherWayRound() {
        check.about("one of a box that is less than the first ones");
        fault(2, 20, SEA + "current 2 3 1 4 n;" + SHIPS);
        fault(2, 22, SEA + "current 2 3 2 2 n;" + SHIPS);
        fault(2, 20, SEA + "current 2 3 1 2 n;" + SHIPS);
        fault(2, 20, SEA + "current 3 0 0 4 n;" + SHIPS);
        fault(2, 22, SEA + "current 0 4 3 0 n;" + SHIPS);
        stands(1, SEA + "current 2 3 2 3 n;" + SHIPS);
        stands(1, SEA + "current 2 1 3 1 n;current 1 2 1 3 n;" + SHIPS);
    }

    private void fuelAboveTank() {
        check.about("FUEL above TANK is none such only if TANK was told ahead");
        String others = "drifter 0 0 0;port 2 2;";
        stands(1, SEA + "tank 50;helper 1 1 50;" + others);
        stands(1, SEA + "tank 50;helper 1 1 49;" + others);
        fault(2, 8 + 8 + 11, SEA + "tank 50;helper 1 1 51;" + others);
        fault(2, 8 + 8 + 11, SEA + "tank 50;helper 1 1 999;" + others);
        SeaMeeting behind = stands(1, SEA + "helper 1 1 51;tank 50;" + others);
        check.due("helper(0, 2)", 51, () -> behind.helper(0, 2));
        check.due("told(4)", 50, () -> behind.told(4));
        SeaMeeting far = stands(1, SEA + "helper 1 1 999;" + others + "tank 1;");
        check.due("helper(0, 2)", 999, () -> far.helper(0, 2));
        SeaMeeting between = stands(2, SEA + "helper 1 1 51;tank 50;helper 1 1 50;" + others);
        check.due("helper(0, 2)", 51, () -> between.helper(0, 2));
        fault(2, 8 + 14 + 8 + 11, SEA + "helper 1 1 51;tank 50;helper 1 1 51;" + others);
        fault(2, 19, SEA + "helper 1 1 1000;tank 999;" + others);
        fault(2, 8 + 9 + 11, SEA + "tank 999;helper 1 1 1000;" + others);
    }

    private void onLand() {
        check.about("3 a CELL that is LAND (of \"drifter\", \"helper\", \"port\"; by its x)");
        String land = SEA + "land 3 4;land 1 2;";
        int at = land.length();
        fault(3, at + 8, land + "drifter 1 2 0;helper 1 1 5;port 2 2;");
        fault(3, at + 8, land + "drifter 3 4 0;helper 1 1 5;port 2 2;");
        fault(3, at + 7, land + "helper 1 2 0;drifter 0 0 0;port 2 2;");
        fault(3, at + 13 + 7, land + "helper 1 1 0;helper 3 4 0;drifter 0 0 0;port 2 2;");
        fault(3, at + 26 + 7, land + "helper 1 1 0;helper 1 1 0;helper 3 4 0;drifter 0 0 0;port 2 2;");
        fault(3, at + 5, land + "port 1 2;drifter 0 0 0;helper 1 1 5;");
        fault(3, at + 5, land + "port 3 4 n;drifter 0 0 0;helper 1 1 5;");
        fault(3, at + 11, land + "drifter    1  2 0;");
        fault(3, at + 8, land + "drifter 0001 2 0;");
        stands(1, land + "drifter 2 1 0;helper 1 3 5;port 3 2;");
        stands(1, land + "current 1 2 3 4 n;" + SHIPS);
    }

    private void landUnderShips() {
        check.about("or LAND where one of these is (by its x)");
        String ships = SEA + "drifter 0 1 0;helper 1 2 5;helper 2 3 5;helper 3 4 5;port 3 0;";
        int at = ships.length() + 5;
        for (String cell : new String[] {"0 1", "1 2", "2 3", "3 4", "3 0"}) {
            fault(3, at, ships + "land " + cell + ";");
            fault(3, at + 2, ships + "land   " + cell + ";");
            fault(3, at, ships + "land " + cell);
        }
        for (String cell : new String[] {"0 0", "0 2", "1 1", "1 3", "2 2", "2 4", "3 3", "2 0", "3 1"}) {
            stands(3, ships + "land " + cell + ";");
        }
        fault(3, 8 + 14 + 5, SEA + "drifter 0 1 0;land 0 1;helper 1 1 5;port 2 2;");
        fault(3, 8 + 13 + 5, SEA + "helper 1 1 5;land 1 1;drifter 0 1 0;port 2 2;");
        fault(3, 8 + 9 + 5, SEA + "port 2 2;land 2 2;drifter 0 1 0;helper 1 1 5;");
        stands(1, SEA + "land 0 0;drifter 0 1 0;helper 1 1 5;port 2 2;");
        stands(1, SEA + "land 3 3;land 3 3;" + SHIPS + "land 3 3;");
    }

    private void fourthHelper() {
        check.about("4 a fourth \"helper\" (by its word)");
        String three = SEA + "land 3 3;" + "helper 1 1 5;".repeat(3);
        int at = three.length();
        fault(4, at, three + "helper 1 1 5;drifter 0 0 0;port 2 2;");
        fault(4, at + 1, three + " helper 1 1 5;drifter 0 0 0;port 2 2;");
        fault(4, at + 23, three + "drifter 0 0 0;port 2 2;helper 1 1 5;");
        fault(4, at, three + "helper");
        fault(4, at, three + "helper 3 3 5;");
        fault(4, at, three + "helper 9 9 1000");
        fault(4, at, three + "helper 1 1 5;helper 1 1 5;");
        fault(1, at, three + "helpers 1 1 5;");
        fault(1, at, three + "helpe 1 1 5;");
        stands(3, three + "drifter 0 0 0;port 2 2;");
    }

    private void leastByte() {
        check.about("of several of 1 to 4 the one whose first byte is least");
        String[] parts = {"boat;", "land 9 9;", "drifter 3 3 0;", "helper 1 1 1000;", "port 2 2 x;", "tank 0;"};
        int[] kinds = {1, 2, 3, 2, 1, 2};
        int[] places = {0, 5, 8, 11, 9, 5};
        for (int first = 0; first < parts.length; first++) {
            for (int second = 0; second < parts.length; second++) {
                fault(kinds[first], 17 + places[first], SEA + "land 3 3;" + parts[first] + parts[second]);
            }
        }
        String three = "helper 1 1 5;".repeat(3);
        fault(4, 8 + 39, SEA + three + "helper 1 1 5;boat");
        fault(1, 8 + 39, SEA + three + "boat;helper 1 1 5;");
        fault(3, 8 + 9 + 8, SEA + "land 3 3;drifter 3 3 10;");
        fault(3, 8 + 9 + 8, SEA + "land 3 3;drifter 3 3;");
        fault(2, 8 + 9 + 10, SEA + "land 3 3;drifter 3 5 0;");
        fault(1, 8 + 9 + 9, SEA + "land 3 3;drifter 3;");
        fault(2, 4, "sea 2 2;land 9 9;boat");
    }

    private void firstInTheList() {
        check.about("of one byte the first in this list");
        fault(2, 8 + 9 + 8, SEA + "land 0 1;drifter 4 0 0;" + SHIPS);
        fault(2, 8 + 9 + 7, SEA + "land 0 1;helper 4 0 0;" + SHIPS);
        fault(2, 8 + 9 + 5, SEA + "land 0 1;port 4 0;" + SHIPS);
        fault(2, 8 + 14 + 5, SEA + "drifter 0 1 0;land 4 0;" + SHIPS);
        fault(1, 8 + 14, SEA + "drifter 0 0 0;drifter 4 0 0;" + SHIPS);
    }

    private void notAllTold() {
        check.about("If there is none of these: 5, at the length: no \"drifter\", no \"helper\", no \"port\"");
        String[] parts = {"drifter 0 0 0;", "helper 1 1 5;", "port 2 2;"};
        for (int told = 0; told < 7; told++) {
            StringBuilder text = new StringBuilder(SEA);
            for (int i = 0; i < 3; i++) {
                text.append((told >> i & 1) == 1 ? parts[i] : "");
            }
            fault(5, text.length(), text.toString());
            fault(5, text.length() + 4, text + "    ");
            fault(5, text.length() + 7, text + "tank 9;");
            fault(1, text.length(), text + ".");
            fault(2, text.length() + 5, text + "land 4 0;");
            fault(1, text.length() + 4, text + "tank");
        }
        fault(3, 8 + 14 + 5, SEA + "drifter 0 0 0;land 0 0;");
        fault(4, 8 + 39, SEA + "helper 1 1 5;".repeat(4));
        stands(1, SEA + SHIPS);
    }

    // Promises 2 to 4.

    private void feed() {
        check.about("Twenty bytes come on the TAPE: how many there are");
        SeaMeeting sea = new SeaMeeting();
        check.row("feed", i -> sea.feed(i, 0, 0, 0, 0), 20, 40, 60, 80, 100);
        check.due("told(11)", 100, () -> sea.told(11));
    }

    private void feedHighestFirst() {
        check.about("of each number the highest first");
        SeaMeeting sea = new SeaMeeting();
        sea.feed(0x73656120, 0x3520373b, 0x64726966, 0x74657220, 0x34203620);
        sea.feed(0x373b6865, 0x6c706572, 0x20332032, 0x20313233, 0x3b706f72);
        sea.feed(0x74203120, 0x313b0000, 0, 0, 0);
        check.due("text(46)", 1, () -> sea.text(46));
        check.row("told", sea::told, 5, 7, 0, 1, 999, 7, 0, 4, 6, 1, 1);
        check.row("helper 0", what -> sea.helper(0, what), 3, 2, 123, 0);
        for (int bits : new int[] {0x80, 0xff, 0xa0, 0xf3}) {
            for (int at = 0; at < 4; at++) {
                int number = 0x20202020 & ~(0xff << 24 - 8 * at) | bits << 24 - 8 * at;
                int place = at + 4;
                sea.feed(0x20202020, number, -1, -1, Integer.MIN_VALUE);
                check.due("text of byte " + bits, -9, () -> sea.text(20));
                check.due("fault()", place, () -> sea.fault());
            }
        }
    }

    private void feedFull() {
        check.about("NONE, doing nothing, if there would be more than 400");
        String text = SEA + SHIPS + " ".repeat(349) + "tank 7;";
        Supplier<SeaMeeting> full = () -> {
            SeaMeeting sea = new SeaMeeting();
            Sea.feed(sea, text);
            return sea;
        };
        Supplier<SeaMeeting> more = () -> {
            SeaMeeting sea = full.get();
            sea.feed(-1, -1, -1, -1, -1);
            sea.feed(0x73656120, 0x3520373b, 0, 0, 0);
            return sea;
        };
        new Twins(check, "a full tape", 30, full, more).same(true);
        SeaMeeting sea = new SeaMeeting();
        for (int i = 1; i <= 20; i++) {
            int due = 20 * i;
            check.due("feed", due, () -> sea.feed(0, 0, 0, 0, 0));
        }
        check.due("feed above 400", -1, () -> sea.feed(0, 0, 0, 0, 0));
        check.due("feed above 400 again", -1, () -> sea.feed(0, 0, 0, 0, 0));
        check.due("told(11)", 400, () -> sea.told(11));
        check.same("status()", "0 0 0", Sea.statusOf(sea));
    }

    private void textOfSomeBytes() {
        check.about("The first n bytes of the TAPE tell all anew: n 0 to the TAPE's bytes");
        String text = SEA + SHIPS + "tank 7;";
        SeaMeeting sea = new SeaMeeting();
        check.due("text(0) of an empty tape", -9, () -> sea.text(0));
        check.due("fault()", 0, () -> sea.fault());
        Sea.feed(sea, text);
        check.due("told(11)", 60, () -> sea.told(11));
        check.due("text(0)", -9, () -> sea.text(0));
        check.due("fault()", 0, () -> sea.fault());
        Sea.feed(sea, text);
        check.due("text(44)", 1, () -> sea.text(44));
        check.due("told(4)", 999, () -> sea.told(4));
        Sea.feed(sea, text);
        check.due("text(51)", 1, () -> sea.text(51));
        check.due("told(4)", 7, () -> sea.told(4));
        Sea.feed(sea, text);
        check.due("text(60), nine bytes of 0 too", -9, () -> sea.text(60));
        check.due("fault()", 51, () -> sea.fault());
        Sea.feed(sea, text + " ".repeat(9));
        check.due("text(60), nine blanks too", 1, () -> sea.text(60));
    }

    private void textEmptiesTheTape() {
        check.about("(empty then): the TAPE");
        SeaMeeting sea = new SeaMeeting();
        Sea.feed(sea, SEA + SHIPS);
        check.due("text(44)", 1, () -> sea.text(44));
        check.due("told(11) behind a text", 0, () -> sea.told(11));
        check.refused("text(1) of what is gone", ARGUMENT, () -> sea.text(1));
        check.due("feed", 20, () -> sea.feed(0x20202020, 0x20202020, 0x20202020, 0x20202020, 0x20202020));
        check.due("text(8)", -9, () -> sea.text(8));
        check.due("told(11) behind a FAULT", 0, () -> sea.told(11));
        Sea.feed(sea, SEA + SHIPS);
        check.due("text(44)", 1, () -> sea.text(44));
    }

    private static void eightActs(SeaMeeting sea) {
        for (int i = 0; i < 8; i++) {
            sea.fuel(0, 20 + i);
        }
    }

    private void tellsAllAnew() {
        check.about("tell all anew: how many HELPERS");
        String many = "sea 9 9;land 5 5;land 0 2;current 0 0 8 8 ne;wind n e;drifter 4 4 3;helper 2 2 8;helper 1 1 1;"
                + "helper 3 3 3;port 8 8 n w;tank 90;";
        for (String text : new String[] {SEA + SHIPS, many, SEA + "wind s;" + SHIPS + "helper 0 0 3;tank 40;"}) {
            Supplier<SeaMeeting> fresh = () -> {
                SeaMeeting sea = Sea.of(text);
                eightActs(sea);
                return sea;
            };
            Supplier<SeaMeeting> again = () -> {
                SeaMeeting sea = Sea.of(many);
                sea.wind(3, 7);
                sea.wind(560, 5);
                sea.fuel(2, 60);
                sea.hour(1, 1, 0);
                sea.hour(0, 0, 0);
                sea.route(0, 0);
                sea.wind(2, 1);
                Sea.tell(sea, text);
                eightActs(sea);
                return sea;
            };
            new Twins(check, "told anew: " + text, 80, fresh, again).same(true);
        }
        check.row("how many helpers", i -> Sea.tell(new SeaMeeting(), SEA + "drifter 0 0 0;port 2 2;"
                + "helper 1 1 5;".repeat(i + 1)), 1, 2, 3);
    }

    private static final String[] FAULTS = {"sea 4 5;boat", "sea 4 5;land 4 4;", "sea 4 5;land 0 0;port 0 0;",
        "sea 4 5;helper 0 0 1;helper 0 0 2;helper 0 0 3;helper 0 0 4;", "sea 20 12;port 3 3 n;drifter 3 3 3;wind w;"};

    private void faultLessTen() {
        check.about("or the FAULT less 10");
        int[] places = {8, 13, 22, 47, 42};
        for (int i = 0; i < FAULTS.length; i++) {
            fault(i + 1, places[i], FAULTS[i]);
        }
    }

    private void allButTheTapeStays() {
        check.about("(all but the TAPE stays): a text with a FAULT");
        Supplier<SeaMeeting> maker = () -> {
            SeaMeeting sea = Sea.of("sea 5 3;current 0 0 4 2 e;wind s n;drifter 0 0 2;helper 4 2 5;helper 1 2 20;"
                    + "port 4 0 n w o;land 2 1;tank 50;");
            sea.wind(3, 7);
            sea.hour(0, 5, 0);
            return sea;
        };
        for (String text : FAULTS) {
            Supplier<SeaMeeting> made = () -> {
                SeaMeeting sea = maker.get();
                Sea.tell(sea, text);
                return sea;
            };
            new Twins(check, "behind " + text, 30, maker, made).same(false);
            check.same("status() behind " + text, "0 0 0", Sea.statusOf(made.get()));
        }
    }

    private void tapeStays() {
        check.about("IllegalArgumentException: n is not 0 to the TAPE's bytes (it stays)");
        SeaMeeting sea = new SeaMeeting();
        Sea.feed(sea, SEA + SHIPS);
        check.refused("text(61)", ARGUMENT, () -> sea.text(61));
        check.refused("text(-1)", ARGUMENT, () -> sea.text(-1));
        check.due("told(11)", 60, () -> sea.told(11));
        check.due("text(44)", 1, () -> sea.text(44));
    }

    private void faultPlace() {
        check.about("The place of the FAULT of the latest text() that threw nothing; NONE without one, and ahead of any");
        SeaMeeting sea = new SeaMeeting();
        check.due("fault() ahead of any", -1, () -> sea.fault());
        check.refused("text(1)", ARGUMENT, () -> sea.text(1));
        check.due("fault() behind a text that threw", -1, () -> sea.fault());
        Sea.tell(sea, "sea 4 5;boat");
        check.due("fault()", 8, () -> sea.fault());
        check.refused("text(1)", ARGUMENT, () -> sea.text(1));
        check.due("fault() behind a text that threw", 8, () -> sea.fault());
        Sea.tell(sea, "");
        check.due("fault() of the latest", 0, () -> sea.fault());
        Sea.feed(sea, "x");
        check.due("fault() behind feed()", 0, () -> sea.fault());
        sea.fuel(0, 5);
        check.due("fault() behind an act", 0, () -> sea.fault());
        sea.text(0);
        Sea.tell(sea, SEA + SHIPS);
        check.due("fault() without one", -1, () -> sea.fault());
        Sea.tell(sea, "sea 4 5;");
        check.due("fault() at the length", 8, () -> sea.fault());
        sea.undo();
        check.due("fault() behind undo()", 8, () -> sea.fault());
    }
}
