/** Promises 3 and 4: texts, and which fault at which byte. */
public final class FaultTest {
    private static final String SEA = "sea 4 3;";
    private static final String SHIPS = "drifter 0 0 0;helper 1 1 5;port 2 2;";

    private final Check check = new Check("faults");

    public static void main(String[] args) {
        FaultTest test = new FaultTest();
        test.sea();
        test.sentences();
        test.land();
        test.current();
        test.wind();
        test.drifter();
        test.helper();
        test.port();
        test.tank();
        test.shipsOnLand();
        test.leastByteFirst();
        test.notAllTold();
        test.blanks();
        test.check.end();
    }

    private void fault(int kind, int place, String text) {
        SeaMeeting sea = new SeaMeeting();
        String before = Sea.stateOf(sea);
        Sea.feed(sea, text);
        check.due("text of '" + text + "'", kind - 10, () -> sea.text(text.length()));
        check.due("fault() of '" + text + "'", place, () -> sea.fault());
        check.due("told(11) behind '" + text + "'", 0, () -> sea.told(11));
        check.due("told(12) behind '" + text + "'", 0, () -> sea.told(12));
        check.same("what stays behind '" + text + "'", before, Sea.stateOf(sea));
    }

    private SeaMeeting stands(int helpers, String text) {
        SeaMeeting sea = new SeaMeeting();
        Sea.feed(sea, text);
        check.due("text of '" + text + "'", helpers, () -> sea.text(text.length()));
        check.due("fault() of '" + text + "'", -1, () -> sea.fault());
        check.due("told(11) behind '" + text + "'", 0, () -> sea.told(11));
        check.due("told(12) behind '" + text + "'", 1, () -> sea.told(12));
        return sea;
    }

    private void sea() {
        fault(1, 0, "");
        fault(1, 3, "   ");
        fault(1, 0, "se");
        fault(1, 0, "seas 4 3;");
        fault(1, 0, "Sea 4 3;");
        fault(1, 1, " land 0 0;");
        fault(1, 0, "4 3;");
        fault(1, 0, ";");
        fault(1, 3, "sea");
        fault(1, 3, "sea;");
        fault(1, 4, "sea x 3;");
        fault(1, 5, "sea 4");
        fault(1, 6, "sea 4 ;");
        fault(1, 7, "sea 4 3");
        fault(1, 9, "sea 4 3  ");
        fault(1, 8, "sea 4 3 3;");
        fault(1, 7, "sea 4 3x;");
        fault(1, 7, "sea 4 3\0");
        fault(1, 4, "sea -4 3;");
        fault(1, 3, "sea\t4 3;");
        fault(1, 3, "sea\u00e9 4 3;");
        fault(2, 4, "sea 2 3;");
        fault(2, 4, "sea 21 3;");
        fault(2, 6, "sea 4 2;");
        fault(2, 6, "sea 4 13;");
        fault(2, 4, "sea 0 0;");
        fault(2, 4, "sea 43;");
        fault(2, 4, "sea 4294967300 3;");
        fault(2, 4, "sea 18446744073709551620 3;");
        fault(2, 6, "sea 4 99999999999999999999999999999999999999;");
        stands(1, "sea 3 3;" + SHIPS);
        SeaMeeting wide = stands(1, "sea 20 12;" + SHIPS);
        check.due("told(0)", 20, () -> wide.told(0));
        check.due("told(1)", 12, () -> wide.told(1));
        SeaMeeting zeros = stands(1, "sea 0000000000000000004 03;" + SHIPS);
        check.due("told(0)", 4, () -> zeros.told(0));
    }

    private void sentences() {
        fault(1, 8, SEA + "boat 0 0;");
        fault(1, 8, SEA + "lan 0 0;");
        fault(1, 8, SEA + "lands 0 0;");
        fault(1, 8, SEA + "sea 4 3;");
        fault(1, 8, SEA + ";");
        fault(1, 8, SEA + "7");
        fault(1, 9, SEA + " ;");
        fault(1, 8 + SHIPS.length(), SEA + SHIPS + ".");
        fault(1, 8 + SHIPS.length(), SEA + SHIPS + "n");
        fault(1, 8 + SHIPS.length() + 4, SEA + SHIPS + "land");
    }

    private void land() {
        fault(1, 14, SEA + "land 0;");
        fault(1, 16, SEA + "land 0 0");
        fault(1, 17, SEA + "land 0 0 0;");
        fault(1, 13, SEA + "land n 0;");
        fault(2, 13, SEA + "land 4 0;");
        fault(2, 15, SEA + "land 0 3;");
        fault(2, 13, SEA + "land 4 3;");
        SeaMeeting sea = stands(1, SEA + "land 3 2;land 3 2;land 3 0;" + SHIPS);
        check.due("told(6)", 2, () -> sea.told(6));
        check.due("cell(3, 2, 0)", 1, () -> sea.cell(3, 2, 0));
        check.due("cell(3, 1, 0)", 0, () -> sea.cell(3, 1, 0));
    }

    private void current() {
        fault(2, 16, SEA + "current 4 0 4 0 n;");
        fault(2, 18, SEA + "current 0 3 0 3 n;");
        fault(2, 20, SEA + "current 0 0 4 0 n;");
        fault(2, 22, SEA + "current 0 0 0 3 n;");
        fault(2, 20, SEA + "current 1 1 0 1 n;");
        fault(2, 22, SEA + "current 1 1 1 0 n;");
        fault(1, 23, SEA + "current 0 0 1 1;");
        fault(1, 24, SEA + "current 0 0 1 1 nn;");
        fault(1, 24, SEA + "current 0 0 1 1 5;");
        fault(1, 26, SEA + "current 0 0 1 1 n n;");
        fault(1, 25, SEA + "current 0 0 1 1 n");
        SeaMeeting sea = stands(1, SEA + "current 1 0 2 1 se;land 2 1;current 2 1 3 2 sw;current 1 0 1 0 o;" + SHIPS);
        int[][] due = {{0, 0, 0}, {0, 4, 0}, {4, 6, 6}, {0, 6, 6}};
        for (int x = 0; x < 4; x++) {
            for (int y = 0; y < 3; y++) {
                int column = x;
                int row = y;
                check.due("cell(" + x + ", " + y + ", 1)", due[x][y], () -> sea.cell(column, row, 1));
            }
        }
    }

    private void wind() {
        fault(1, 12, SEA + "wind;");
        fault(1, 13, SEA + "wind ;");
        fault(1, 13, SEA + "wind x;");
        fault(1, 13, SEA + "wind nne;");
        fault(1, 13, SEA + "wind 1;");
        fault(1, 15, SEA + "wind n 1;");
        fault(1, 14, SEA + "wind n");
        fault(1, 15, SEA + "wind n;wind n;");
        fault(1, 13 + 48, SEA + "wind" + " n".repeat(25) + ";");
        fault(1, 13 + 48, SEA + "wind" + " n".repeat(24) + " x;");
        fault(1, 12 + 48, SEA + "wind" + " n".repeat(24));
        SeaMeeting most = stands(1, SEA + "wind" + " n".repeat(23) + " s;" + SHIPS);
        check.due("blows(22)", 1, () -> most.blows(22));
        check.due("blows(23)", 5, () -> most.blows(23));
        check.due("blows(24)", 1, () -> most.blows(24));
        SeaMeeting all = stands(1, SEA + "wind o n ne e se s sw w nw;" + SHIPS);
        for (int i = 0; i < 9; i++) {
            int hour = i;
            check.due("blows(" + i + ")", i, () -> all.blows(hour));
            check.due("blows(" + (i + 9) + ")", i, () -> all.blows(hour + 9));
        }
    }

    private void drifter() {
        fault(1, 19, SEA + "drifter 0 0;");
        fault(2, 20, SEA + "drifter 0 0 10;");
        fault(2, 16, SEA + "drifter 4 0 0;");
        fault(2, 18, SEA + "drifter 0 3 0;");
        fault(1, 22, SEA + "drifter 0 0 0;drifter 0 0 0;");
        fault(1, 22, SEA + "drifter 0 0 0;drifter");
        SeaMeeting sea = stands(1, SEA + "drifter 3 1 9;helper 0 0 0;port 0 0;");
        check.due("told(5)", 9, () -> sea.told(5));
        check.due("told(7)", 3, () -> sea.told(7));
        check.due("told(8)", 1, () -> sea.told(8));
    }

    private void helper() {
        fault(1, 18, SEA + "helper 0 0;");
        fault(2, 15, SEA + "helper 4 0 0;");
        fault(2, 17, SEA + "helper 0 3 0;");
        fault(2, 19, SEA + "helper 0 0 1000;");
        fault(4, 8 + 39, SEA + "helper 0 0 1;".repeat(4));
        fault(4, 8 + 39, SEA + "helper 0 0 1;".repeat(3) + "helper");
        fault(4, 8 + 39, SEA + "helper 0 0 1;".repeat(3) + "helper 9 9 9;");
        fault(1, 8 + 39, SEA + "helper 0 0 1;".repeat(3) + "helpers 0 0 1;");
        SeaMeeting sea = stands(3, SEA + "helper 0 0 0;helper 3 2 999;helper 3 2 7;drifter 0 0 0;port 0 0;");
        check.due("helper(1, 0)", 3, () -> sea.helper(1, 0));
        check.due("helper(1, 1)", 2, () -> sea.helper(1, 1));
        check.due("helper(1, 2)", 999, () -> sea.helper(1, 2));
        check.due("helper(2, 2)", 7, () -> sea.helper(2, 2));
        check.due("helper(0, 2)", 0, () -> sea.helper(0, 2));
    }

    private void port() {
        fault(1, 12, SEA + "port;");
        fault(1, 14, SEA + "port 0;");
        fault(1, 16, SEA + "port 0 0");
        fault(1, 17, SEA + "port 0 0 0;");
        fault(1, 17, SEA + "port 0 0 ns;");
        fault(2, 13, SEA + "port 4 0;");
        fault(2, 15, SEA + "port 0 3;");
        fault(1, 17, SEA + "port 0 0;port 0 0;");
        fault(1, 17 + 24, SEA + "port 0 0" + " n".repeat(13) + ";");
        fault(1, 16 + 24, SEA + "port 0 0" + " n".repeat(12));
        SeaMeeting sea = stands(1, SEA + "port 3 0" + " o".repeat(11) + " n;drifter 0 0 0;helper 0 0 0;");
        check.due("told(9)", 3, () -> sea.told(9));
        check.due("told(10)", 0, () -> sea.told(10));
        check.due("drift(11, 3)", 0, () -> sea.drift(11, 3));
        check.due("drift(12, 3)", 1, () -> sea.drift(12, 3));
    }

    private void tank() {
        fault(1, 12, SEA + "tank;");
        fault(2, 13, SEA + "tank 0;");
        fault(2, 13, SEA + "tank 1000;");
        fault(1, 15, SEA + "tank 5;tank 5;");
        fault(2, 26, SEA + "tank 5;helper 0 0 6;");
        SeaMeeting ahead = stands(1, SEA + "tank 5;" + SHIPS);
        check.due("told(4)", 5, () -> ahead.told(4));
        SeaMeeting behind = stands(1, SEA + SHIPS + "tank 4;");
        check.due("told(4)", 4, () -> behind.told(4));
        check.due("helper(0, 2)", 5, () -> behind.helper(0, 2));
        SeaMeeting without = stands(1, SEA + SHIPS);
        check.due("told(4)", 999, () -> without.told(4));
        check.due("told(4)", 999, () -> stands(1, SEA + SHIPS + "tank 999;").told(4));
        check.due("told(4)", 1, () -> stands(1, SEA + SHIPS + "tank 1;").told(4));
    }

    private void shipsOnLand() {
        fault(3, 8 + 9 + 8, SEA + "land 1 2;drifter 1 2 0;");
        fault(3, 8 + 9 + 7, SEA + "land 1 2;helper 1 2 0;");
        fault(3, 8 + 9 + 5, SEA + "land 1 2;port 1 2;");
        fault(3, 8 + 14 + 5, SEA + "drifter 1 2 0;land 1 2;");
        fault(3, 8 + 13 + 5, SEA + "helper 1 2 0;land 1 2;");
        fault(3, 8 + 26 + 5, SEA + "helper 1 1 0;helper 1 2 0;land 1 2;");
        fault(3, 8 + 9 + 5, SEA + "port 1 2;land 1 2;");
        stands(1, SEA + "land 1 2;land 2 1;" + SHIPS + "land 0 2;land 3 0;");
    }

    private void leastByteFirst() {
        fault(3, 8 + 9 + 8, SEA + "land 0 0;drifter 0 0 10;");
        fault(3, 8 + 9 + 8, SEA + "land 0 0;drifter 0 0");
        fault(3, 8 + 9 + 7, SEA + "land 0 0;helper 0 0 x");
        fault(3, 8 + 9 + 5, SEA + "land 0 0;port 0 0 x");
        fault(3, 8 + 14 + 5, SEA + "drifter 0 0 0;land 0 0");
        fault(1, 8 + 9 + 9, SEA + "land 0 0;drifter 0;");
        fault(2, 8 + 9 + 10, SEA + "land 0 0;drifter 0 3 0;");
        fault(2, 4, "sea 2 3;boat");
        fault(2, 13, SEA + "land 9 0");
        fault(1, 8 + 14, SEA + "drifter 0 0 0;drifter 9 9 9;");
    }

    private void notAllTold() {
        fault(5, 8, SEA);
        fault(5, 11, SEA + "   ");
        fault(5, 8 + 22, SEA + "helper 1 1 5;port 2 2;");
        fault(5, 8 + 23, SEA + "drifter 0 0 0;port 2 2;");
        fault(5, 8 + 27, SEA + "drifter 0 0 0;helper 1 1 5;");
        fault(1, 8 + 27 + 4, SEA + "drifter 0 0 0;helper 1 1 5;land");
    }

    private void blanks() {
        stands(1, "  sea  4  3 ; drifter  0 0  0 ;helper 1 1 5  ;  port 2 2 n  e ; wind  n ;tank 9 ; ");
        stands(1, "sea4 3;drifter0 0 0;helper1 1 5;port2 2n e;current0 0 1 1n;wind n e;tank9;land3 0;");
        String full = SEA + SHIPS + "land 3 0;";
        stands(1, full + " ".repeat(400 - full.length()));
        cut(7, 7, "sea 4 3;");
        cut(8, 8, "sea 4 3    ;");
        cut(4, 4, "sea 4 3;");
        cut(0, 2, "sea 4 3;");
    }

    /** Bytes of the tape behind the first n are none of the text's. */
    private void cut(int place, int n, String tape) {
        SeaMeeting sea = new SeaMeeting();
        Sea.feed(sea, tape);
        check.due("text(" + n + ") of '" + tape + "'", -9, () -> sea.text(n));
        check.due("fault()", place, () -> sea.fault());
    }
}
