import java.util.Arrays;
import java.util.NoSuchElementException;

/** Meeting at sea: one that drifts, helpers with fuel who sail to it, a port that moves. */
public final class SeaMeeting {
    public static final int NONE = -1;

    private static final int LEAST_SIDE = 3;
    private static final int MOST_WIDE = 20;
    private static final int MOST_HIGH = 12;
    private static final int CELLS = MOST_WIDE * MOST_HIGH;
    private static final int COURSES = 9;
    private static final int MOST_HELPERS = 3;
    private static final int MOST_WINDS = 24;
    private static final int MOST_TURNS = 12;
    private static final int MOST_FUEL = 999;
    private static final int MOST_LEEWAY = 9;
    private static final int LAST_HOUR = 500;
    private static final int AHEAD = 60;
    private static final int LAST_WIND = LAST_HOUR + AHEAD;
    private static final int TAPE_BYTES = 400;
    private static final int FEED_BYTES = 20;
    private static final int MOST_KEPT = 8;
    private static final int LAST_TOLD = 12;

    private static final int CAN_NOT_STAND = 1;
    private static final int NO_SUCH_NUMBER = 2;
    private static final int ON_LAND = 3;
    private static final int FOURTH_HELPER = 4;
    private static final int NOT_ALL_TOLD = 5;
    private static final int FAULT_LESS = 10;

    /** By how much x and y grow in a step by each direction. */
    private static final int[] EAST = {0, 0, 1, 1, 1, 0, -1, -1, -1};
    private static final int[] NORTH = {0, 1, 1, 0, -1, -1, -1, 0, 1};

    private final int[] tape = new int[TAPE_BYTES];
    private final World world = new World();
    private final World draft = new World();
    private final Teller teller = new Teller(tape, draft);
    private final Outlook outlook = new Outlook(world);
    private final World[] kept = new World[MOST_KEPT];
    private int tapeBytes = 0;
    private int faultPlace = NONE;
    private int keptNext = 0;
    private int keptCount = 0;
    private int refusedElements = 0;
    private int refusedArguments = 0;
    private int refusedStates = 0;

    public SeaMeeting() {
        for (int i = 0; i < kept.length; i++) {
            kept[i] = new World();
        }
        world.beginSmall();
    }

    public int feed(int a, int b, int c, int d, int e) {
        if (tapeBytes + FEED_BYTES > TAPE_BYTES) {
            return NONE;
        }
        putBytes(a);
        putBytes(b);
        putBytes(c);
        putBytes(d);
        putBytes(e);
        return tapeBytes;
    }

    public int text(int n) throws IllegalArgumentException {
        needNumber(isIn(n, 0, tapeBytes));
        tapeBytes = 0;
        int kind = teller.readText(n);
        faultPlace = teller.faultPlace;
        if (kind != 0) {
            return kind - FAULT_LESS;
        }
        keepWorld();
        world.become(draft);
        return world.helpers;
    }

    public int fault() {
        return faultPlace;
    }

    public int hour(int one, int two, int three) throws IllegalArgumentException, IllegalStateException {
        needNumber(isCourseOf(0, one) && isCourseOf(1, two) && isCourseOf(2, three));
        needState(world.canSail(0, one) && world.canSail(1, two) && world.canSail(2, three));
        needState(world.time < LAST_HOUR);
        keepWorld();
        world.sail(0, one);
        world.sail(1, two);
        world.sail(2, three);
        world.passHour();
        return world.meetingBits();
    }

    public int fuel(int helper, int n) throws NoSuchElementException, IllegalArgumentException {
        needHelper(helper);
        needNumber(isIn(n, 0, world.tank));
        int was = read(world.stores, helper);
        keepWorld();
        write(world.stores, helper, n);
        return was;
    }

    public int wind(int hour, int direction) throws IllegalArgumentException {
        needNumber(isIn(hour, world.time, LAST_WIND) && isIn(direction, 0, COURSES - 1));
        int was = world.windOf(hour);
        keepWorld();
        write(world.windsByHand, hour, direction);
        return was;
    }

    public int undo() {
        if (keptCount == 0) {
            return NONE;
        }
        keptCount--;
        keptNext = (keptNext + MOST_KEPT - 1) % MOST_KEPT;
        world.become(keptAt(keptNext));
        outlook.forget();
        return keptCount;
    }

    public int told(int what) throws IllegalArgumentException {
        needNumber(isIn(what, 0, LAST_TOLD));
        switch (what) {
            case 0: return world.wide;
            case 1: return world.high;
            case 2: return world.time;
            case 3: return world.helpers;
            case 4: return world.tank;
            case 5: return world.leeway;
            case 6: return world.countLand();
            case 7: return world.xOf(world.drifter);
            case 8: return world.yOf(world.drifter);
            case 9: return world.xOf(world.port);
            case 10: return world.yOf(world.port);
            case 11: return tapeBytes;
            default: return keptCount;
        }
    }

    public int cell(int x, int y, int what) throws IllegalArgumentException {
        needNumber(world.isOnSea(x, y) && isIn(what, 0, 1));
        int at = world.cellAt(x, y);
        return what == 0 ? read(world.lands, at) : read(world.currents, at);
    }

    public int blows(int hour) throws IllegalArgumentException {
        needNumber(isIn(hour, 0, LAST_WIND));
        return world.windOf(hour);
    }

    public int helper(int helper, int what) throws NoSuchElementException, IllegalArgumentException {
        needHelper(helper);
        needNumber(isIn(what, 0, 3));
        int at = read(world.places, helper);
        switch (what) {
            case 0: return world.xOf(at);
            case 1: return world.yOf(at);
            case 2: return read(world.stores, helper);
            default: return at == world.drifter ? 1 : 0;
        }
    }

    public int drift(int n, int what) throws IllegalArgumentException {
        needNumber(isIn(n, 0, AHEAD) && isIn(what, 0, 3));
        outlook.refresh();
        int at = what < 2 ? outlook.drifterIn(n) : outlook.portIn(n);
        return what % 2 == 0 ? world.xOf(at) : world.yOf(at);
    }

    public int cost(int course, int n) throws IllegalArgumentException {
        needNumber(isIn(course, 1, COURSES - 1) && isIn(n, 0, AHEAD - 1));
        return world.priceOf(course, world.time + n);
    }

    public int meet(int helper, int what) throws NoSuchElementException, IllegalArgumentException {
        needHelper(helper);
        needNumber(isIn(what, 0, 1));
        outlook.refresh();
        int hours = outlook.earliestOf(helper);
        return what == 0 ? hours : outlook.mostMeeting(helper, hours);
    }

    public int route(int helper, int k) throws NoSuchElementException {
        needHelper(helper);
        outlook.refresh();
        return outlook.courseOf(helper, k);
    }

    public int first() {
        outlook.refresh();
        int found = NONE;
        int least = AHEAD + 1;
        for (int i = 0; i < world.helpers; i++) {
            int hours = outlook.earliestOf(i);
            if (hours >= 0 && hours < least) {
                least = hours;
                found = i;
            }
        }
        return found;
    }

    public int least(int helper, int n) throws NoSuchElementException, IllegalArgumentException {
        needHelper(helper);
        needNumber(isIn(n, 0, AHEAD));
        outlook.refresh();
        return outlook.leastOf(helper, n);
    }

    public int reach(int helper, int n) throws NoSuchElementException, IllegalArgumentException {
        needHelper(helper);
        needNumber(isIn(n, 0, AHEAD));
        outlook.refresh();
        return outlook.reachOf(helper, n);
    }

    public int most(int helper, int n, int x, int y) throws NoSuchElementException, IllegalArgumentException {
        needHelper(helper);
        needNumber(isIn(n, 0, AHEAD) && world.isOnSea(x, y));
        outlook.refresh();
        return outlook.mostOf(helper, n, world.cellAt(x, y));
    }

    public int relay(int one, int other) throws NoSuchElementException, IllegalArgumentException {
        needHelper(one);
        needHelper(other);
        needNumber(one != other);
        outlook.refresh();
        return outlook.relayOf(one, other);
    }

    public int home(int helper, int what) throws NoSuchElementException, IllegalArgumentException {
        needHelper(helper);
        needNumber(isIn(what, 0, 1));
        outlook.refresh();
        return outlook.homeOf(helper, what);
    }

    public long print() {
        long sum = 31L * world.drifter + world.port;
        for (int i = 0; i < world.helpers; i++) {
            sum = 31L * sum + read(world.places, i);
            sum = 31L * sum + read(world.stores, i);
        }
        return sum;
    }

    public int status(int what) {
        switch (what) {
            case 0: return refusedElements;
            case 1: return refusedArguments;
            case 2: return refusedStates;
            default: return NONE;
        }
    }

    private void needHelper(int helper) {
        if (helper < 0 || helper >= world.helpers) {
            refusedElements++;
            throw new NoSuchElementException("no such helper");
        }
    }

    private void needNumber(boolean holds) {
        if (!holds) {
            refusedArguments++;
            throw new IllegalArgumentException("another number");
        }
    }

    private void needState(boolean holds) {
        if (!holds) {
            refusedStates++;
            throw new IllegalStateException("this hour can't go by so");
        }
    }

    private boolean isCourseOf(int helper, int course) {
        return helper < world.helpers ? isIn(course, 0, COURSES - 1) : course == 0;
    }

    private void putBytes(int number) {
        for (int shift = 24; shift >= 0; shift -= 8) {
            write(tape, tapeBytes, number >>> shift & 255);
            tapeBytes++;
        }
    }

    /** Every act calls this ahead of its change, so what was looked ahead at no longer counts. */
    private void keepWorld() {
        keptAt(keptNext).become(world);
        keptNext = (keptNext + 1) % MOST_KEPT;
        keptCount = Math.min(keptCount + 1, MOST_KEPT);
        outlook.forget();
    }

    private World keptAt(int i) {
        return kept[Math.max(0, Math.min(i, kept.length - 1))];
    }

    private static boolean isIn(int n, int least, int most) {
        return n >= least && n <= most;
    }

    private static int read(int[] row, int i) {
        return i >= 0 && i < row.length ? row[i] : NONE;
    }

    private static void write(int[] row, int i, int value) {
        if (i >= 0 && i < row.length) {
            row[i] = value;
        }
    }

    /** All that an act can change and undo() brings back. */
    private static final class World {
        int wide = LEAST_SIDE;
        int high = LEAST_SIDE;
        int time = 0;
        int tank = MOST_FUEL;
        int leeway = 0;
        int drifter = 0;
        int port = 0;
        int helpers = 0;
        int winds = 0;
        int turns = 0;
        final int[] places = new int[MOST_HELPERS];
        final int[] stores = new int[MOST_HELPERS];
        final int[] lands = new int[CELLS];
        final int[] currents = new int[CELLS];
        final int[] windRow = new int[MOST_WINDS];
        final int[] turnRow = new int[MOST_TURNS];
        final int[] windsByHand = new int[LAST_WIND + 1];

        void beginEmpty() {
            wide = LEAST_SIDE;
            high = LEAST_SIDE;
            time = 0;
            tank = MOST_FUEL;
            leeway = 0;
            drifter = 0;
            port = 0;
            helpers = 0;
            winds = 0;
            turns = 0;
            Arrays.fill(lands, 0);
            Arrays.fill(currents, 0);
            Arrays.fill(windsByHand, NONE);
        }

        void beginSmall() {
            beginEmpty();
            port = cellAt(1, 1);
            addHelper(cellAt(2, 2), 10);
        }

        void become(World other) {
            wide = other.wide;
            high = other.high;
            time = other.time;
            tank = other.tank;
            leeway = other.leeway;
            drifter = other.drifter;
            port = other.port;
            helpers = other.helpers;
            winds = other.winds;
            turns = other.turns;
            copyRow(other.places, places);
            copyRow(other.stores, stores);
            copyRow(other.lands, lands);
            copyRow(other.currents, currents);
            copyRow(other.windRow, windRow);
            copyRow(other.turnRow, turnRow);
            copyRow(other.windsByHand, windsByHand);
        }

        private static void copyRow(int[] from, int[] to) {
            System.arraycopy(from, 0, to, 0, Math.min(from.length, to.length));
        }

        void addHelper(int at, int store) {
            write(places, helpers, at);
            write(stores, helpers, store);
            helpers++;
        }

        int cellAt(int x, int y) {
            return wide * y + x;
        }

        int xOf(int at) {
            return wide > 0 ? at % wide : 0;
        }

        int yOf(int at) {
            return wide > 0 ? at / wide : 0;
        }

        boolean isOnSea(int x, int y) {
            return x >= 0 && x < wide && y >= 0 && y < high;
        }

        int countLand() {
            int count = 0;
            for (int at = 0; at < lands.length; at++) {
                count += lands[at];
            }
            return count;
        }

        /** The cell behind a step, NONE if it is not made. */
        int stepFrom(int at, int direction) {
            if (direction < 1 || direction >= COURSES) {
                return NONE;
            }
            int x = xOf(at) + EAST[direction];
            int y = yOf(at) + NORTH[direction];
            int to = cellAt(x, y);
            return isOnSea(x, y) && read(lands, to) == 0 ? to : NONE;
        }

        int carriedFrom(int at, int direction) {
            int to = stepFrom(at, direction);
            return to == NONE ? at : to;
        }

        int drifterBehind(int at, int t) {
            int to = carriedFrom(at, read(currents, at));
            boolean leewayToo = leeway > 0 && (t + 1) % leeway == 0;
            return leewayToo ? carriedFrom(to, windOf(t)) : to;
        }

        int portBehind(int at, int t) {
            return turns > 0 ? carriedFrom(at, read(turnRow, t % turns)) : at;
        }

        /** Where a helper is an hour later, NONE if the course can't be. */
        int helperBehind(int at, int course) {
            int to = course == 0 ? at : stepFrom(at, course);
            return to == NONE ? NONE : carriedFrom(to, read(currents, to));
        }

        int windOf(int t) {
            int byHand = read(windsByHand, t);
            if (byHand != NONE) {
                return byHand;
            }
            return winds > 0 ? read(windRow, t % winds) : 0;
        }

        int priceOf(int course, int t) {
            if (course == 0) {
                return 0;
            }
            int blowing = windOf(t);
            if (blowing == 0) {
                return 3;
            }
            int apart = Math.abs(course - blowing);
            return 1 + Math.min(apart, 8 - apart);
        }

        /** A helper that there is not can only have course 0, and no fuel is asked for that. */
        boolean canSail(int helper, int course) {
            if (course == 0) {
                return true;
            }
            boolean fuelEnough = priceOf(course, time) <= read(stores, helper);
            return fuelEnough && helperBehind(read(places, helper), course) != NONE;
        }

        void sail(int helper, int course) {
            if (helper >= helpers) {
                return;
            }
            write(stores, helper, read(stores, helper) - priceOf(course, time));
            write(places, helper, helperBehind(read(places, helper), course));
        }

        void passHour() {
            drifter = drifterBehind(drifter, time);
            port = portBehind(port, time);
            time++;
        }

        int meetingBits() {
            int bits = 0;
            for (int i = 0; i < helpers; i++) {
                if (read(places, i) == drifter) {
                    bits |= 1 << i;
                }
            }
            return bits;
        }

        boolean isTaken(int at) {
            for (int i = 0; i < helpers; i++) {
                if (read(places, i) == at) {
                    return true;
                }
            }
            return false;
        }
    }

    /** Reads a text from the tape into a draft; stops at the first fault. */
    private static final class Teller {
        private final int[] bytes;
        private final World draft;
        private int end = 0;
        private int place = 0;
        private int start = 0;
        private int value = 0;
        private int spot = 0;
        private int spotStart = 0;
        private int listed = 0;
        private int fault = 0;
        private int faultPlace = NONE;
        private boolean drifterTold = false;
        private boolean portTold = false;
        private boolean windTold = false;
        private boolean tankTold = false;

        Teller(int[] bytes, World draft) {
            this.bytes = bytes;
            this.draft = draft;
        }

        /** Answers the fault, 0 for none. */
        int readText(int length) {
            begin(length);
            boolean going = readSea();
            for (int i = 0; i < end && going && isMore(); i++) {
                going = readSentence();
            }
            if (going && !(drifterTold && portTold && draft.helpers > 0)) {
                fail(NOT_ALL_TOLD, end);
            }
            return fault;
        }

        private void begin(int length) {
            draft.beginEmpty();
            end = Math.min(length, bytes.length);
            place = 0;
            fault = 0;
            faultPlace = NONE;
            drifterTold = false;
            portTold = false;
            windTold = false;
            tankTold = false;
        }

        private boolean fail(int kind, int where) {
            fault = kind;
            faultPlace = where;
            return false;
        }

        private boolean readSea() {
            if (!readWord()) {
                return false;
            }
            if (!isWord("sea")) {
                return fail(CAN_NOT_STAND, start);
            }
            if (!readNumber(LEAST_SIDE, MOST_WIDE)) {
                return false;
            }
            draft.wide = value;
            if (!readNumber(LEAST_SIDE, MOST_HIGH)) {
                return false;
            }
            draft.high = value;
            return readEnd();
        }

        private boolean readSentence() {
            if (!readWord()) {
                return false;
            }
            if (isWord("land")) {
                return readLand();
            }
            if (isWord("current")) {
                return readCurrent();
            }
            if (isWord("wind")) {
                return readWind();
            }
            if (isWord("drifter")) {
                return readDrifter();
            }
            if (isWord("helper")) {
                return readHelper();
            }
            if (isWord("port")) {
                return readPort();
            }
            if (isWord("tank")) {
                return readTank();
            }
            return fail(CAN_NOT_STAND, start);
        }

        private boolean readLand() {
            if (!readCell()) {
                return false;
            }
            boolean drifterThere = drifterTold && draft.drifter == spot;
            boolean portThere = portTold && draft.port == spot;
            if (drifterThere || portThere || draft.isTaken(spot)) {
                return fail(ON_LAND, spotStart);
            }
            write(draft.lands, spot, 1);
            return readEnd();
        }

        private boolean readCurrent() {
            if (!readCell()) {
                return false;
            }
            int west = draft.xOf(spot);
            int south = draft.yOf(spot);
            if (!readNumber(west, draft.wide - 1)) {
                return false;
            }
            int east = value;
            if (!readNumber(south, draft.high - 1)) {
                return false;
            }
            int north = value;
            if (!readWord() || !isDirection()) {
                return false;
            }
            for (int y = south; y <= north; y++) {
                for (int x = west; x <= east; x++) {
                    write(draft.currents, draft.cellAt(x, y), value);
                }
            }
            return readEnd();
        }

        private boolean readWind() {
            if (windTold) {
                return fail(CAN_NOT_STAND, start);
            }
            windTold = true;
            if (!readDirections(draft.windRow, 1)) {
                return false;
            }
            draft.winds = listed;
            return true;
        }

        private boolean readDrifter() {
            if (drifterTold) {
                return fail(CAN_NOT_STAND, start);
            }
            if (!readCell() || !isWater()) {
                return false;
            }
            drifterTold = true;
            draft.drifter = spot;
            if (!readNumber(0, MOST_LEEWAY)) {
                return false;
            }
            draft.leeway = value;
            return readEnd();
        }

        private boolean readHelper() {
            if (draft.helpers >= MOST_HELPERS) {
                return fail(FOURTH_HELPER, start);
            }
            if (!readCell() || !isWater() || !readNumber(0, tankTold ? draft.tank : MOST_FUEL)) {
                return false;
            }
            draft.addHelper(spot, value);
            return readEnd();
        }

        private boolean readPort() {
            if (portTold) {
                return fail(CAN_NOT_STAND, start);
            }
            if (!readCell() || !isWater()) {
                return false;
            }
            portTold = true;
            draft.port = spot;
            if (!readDirections(draft.turnRow, 0)) {
                return false;
            }
            draft.turns = listed;
            return true;
        }

        private boolean readTank() {
            if (tankTold) {
                return fail(CAN_NOT_STAND, start);
            }
            tankTold = true;
            if (!readNumber(1, MOST_FUEL)) {
                return false;
            }
            draft.tank = value;
            return readEnd();
        }

        private boolean readCell() {
            if (!readNumber(0, draft.wide - 1)) {
                return false;
            }
            int x = value;
            spotStart = start;
            if (!readNumber(0, draft.high - 1)) {
                return false;
            }
            spot = draft.cellAt(x, value);
            return true;
        }

        private boolean isWater() {
            return read(draft.lands, spot) == 0 || fail(ON_LAND, spotStart);
        }

        /** Directions into a row, no more than it has room for, and the end of the sentence. */
        private boolean readDirections(int[] row, int least) {
            for (int i = 0; i < row.length; i++) {
                if (i >= least && isEnd()) {
                    listed = i;
                    return true;
                }
                if (!readWord() || !isDirection()) {
                    return false;
                }
                row[i] = value;
            }
            listed = row.length;
            return isEnd() || fail(CAN_NOT_STAND, place);
        }

        private boolean isDirection() {
            for (int i = 0; i < COURSES; i++) {
                if (isWord(wordOf(i))) {
                    value = i;
                    return true;
                }
            }
            return fail(CAN_NOT_STAND, start);
        }

        private static String wordOf(int direction) {
            switch (direction) {
                case 1: return "n";
                case 2: return "ne";
                case 3: return "e";
                case 4: return "se";
                case 5: return "s";
                case 6: return "sw";
                case 7: return "w";
                case 8: return "nw";
                default: return "o";
            }
        }

        private boolean readWord() {
            skipBlanks();
            start = place;
            while (place < end && isIn(byteAt(place), 'a', 'z')) {
                place++;
            }
            return place > start || fail(CAN_NOT_STAND, start);
        }

        private boolean isWord(String word) {
            if (word.length() != place - start) {
                return false;
            }
            for (int i = 0; i < word.length(); i++) {
                int at = start + i;
                if (at < 0 || at >= bytes.length || bytes[at] != word.charAt(i)) {
                    return false;
                }
            }
            return true;
        }

        private boolean readNumber(int least, int most) {
            skipBlanks();
            start = place;
            value = 0;
            while (place < end && isIn(byteAt(place), '0', '9')) {
                // More digits than any number has must not wrap around.
                value = Math.min(value * 10 + byteAt(place) - '0', MOST_FUEL + 1);
                place++;
            }
            if (place == start) {
                return fail(CAN_NOT_STAND, start);
            }
            return isIn(value, least, most) || fail(NO_SUCH_NUMBER, start);
        }

        private boolean isEnd() {
            skipBlanks();
            if (byteAt(place) != ';') {
                return false;
            }
            place++;
            return true;
        }

        private boolean readEnd() {
            return isEnd() || fail(CAN_NOT_STAND, place);
        }

        private boolean isMore() {
            skipBlanks();
            return place < end;
        }

        private void skipBlanks() {
            while (place >= 0 && place < end && place < bytes.length && bytes[place] == ' ') {
                place++;
            }
        }

        /** NONE behind the text's end: no byte can stand there. */
        private int byteAt(int i) {
            return i >= 0 && i < end && i < bytes.length ? bytes[i] : NONE;
        }
    }

    /** What one helper can do from now on, as far as it was asked. */
    private static final class Sailing {
        final int[][] mosts = new int[AHEAD + 1][CELLS];
        final int[] courses = new int[AHEAD];
        int known = 0;
        boolean routed = false;

        void forget() {
            known = 0;
            routed = false;
        }
    }

    /** Looks ahead from a world as it is now; refresh() comes ahead of every question. */
    private static final class Outlook {
        /** More than any way of 60 hours costs. */
        private static final int PLENTY = 1000;

        private final World world;
        private final int[] drifters = new int[AHEAD + 1];
        private final int[] ports = new int[AHEAD + 1];
        private final int[] behinds = new int[CELLS * COURSES];
        private final int[] prices = new int[AHEAD * COURSES];
        private final Sailing[] sailings = new Sailing[MOST_HELPERS];
        private final int[][] needs = new int[AHEAD + 1][CELLS];
        private final int[][] turning = new int[2][CELLS];
        private int cells = 0;
        private boolean fresh = false;

        Outlook(World world) {
            this.world = world;
            for (int i = 0; i < sailings.length; i++) {
                sailings[i] = new Sailing();
            }
        }

        void forget() {
            fresh = false;
        }

        void refresh() {
            if (fresh) {
                return;
            }
            fresh = true;
            cells = Math.min(world.wide * world.high, CELLS);
            for (int i = 0; i < sailings.length; i++) {
                sailings[i].forget();
            }
            lookAtPaths();
            lookAtCourses();
            lookAtPrices();
        }

        private void lookAtPaths() {
            int drifter = world.drifter;
            int port = world.port;
            for (int n = 0; n <= AHEAD; n++) {
                drifters[n] = drifter;
                ports[n] = port;
                drifter = world.drifterBehind(drifter, world.time + n);
                port = world.portBehind(port, world.time + n);
            }
        }

        private void lookAtCourses() {
            for (int at = 0; at < cells && at < CELLS; at++) {
                for (int course = 0; course < COURSES; course++) {
                    behinds[at * COURSES + course] = world.helperBehind(at, course);
                }
            }
        }

        private void lookAtPrices() {
            for (int n = 0; n < AHEAD; n++) {
                for (int course = 0; course < COURSES; course++) {
                    prices[n * COURSES + course] = world.priceOf(course, world.time + n);
                }
            }
        }

        int drifterIn(int n) {
            return read(drifters, n);
        }

        int portIn(int n) {
            return read(ports, n);
        }

        /** The first hour in which the helper can be where the drifter is then. */
        int earliestOf(int helper) {
            for (int n = 0; n <= AHEAD; n++) {
                if (read(mostsOf(helper, n), drifters[n]) != NONE) {
                    return n;
                }
            }
            return NONE;
        }

        int mostMeeting(int helper, int hours) {
            return hours == NONE ? NONE : read(mostsOf(helper, hours), drifterIn(hours));
        }

        int mostOf(int helper, int n, int at) {
            return read(mostsOf(helper, n), at);
        }

        int reachOf(int helper, int n) {
            int[] row = mostsOf(helper, n);
            int count = 0;
            for (int at = 0; at < cells && at < row.length; at++) {
                if (row[at] != NONE) {
                    count++;
                }
            }
            return count;
        }

        /** The most fuel in each cell n hours from now; NONE where the helper can't be. */
        private int[] mostsOf(int helper, int n) {
            Sailing sailing = sailingOf(helper);
            for (int i = Math.max(0, sailing.known); i <= n && i <= AHEAD; i++) {
                if (i == 0) {
                    begin(sailing.mosts[0], read(world.places, helper), read(world.stores, helper));
                } else {
                    sailHour(sailing.mosts[i - 1], sailing.mosts[i], i - 1, 1);
                }
                sailing.known = i + 1;
            }
            return sailing.mosts[Math.max(0, Math.min(n, AHEAD))];
        }

        private Sailing sailingOf(int helper) {
            return sailings[Math.max(0, Math.min(helper, sailings.length - 1))];
        }

        private static void begin(int[] row, int at, int fuel) {
            Arrays.fill(row, NONE);
            write(row, at, fuel);
        }

        /** From the most fuel n hours from now to that an hour later, each course costing so many times as much. */
        private void sailHour(int[] from, int[] to, int n, int times) {
            Arrays.fill(to, NONE);
            for (int at = 0; at < cells && at < from.length; at++) {
                if (from[at] != NONE) {
                    sailFrom(at, from[at], to, n, times);
                }
            }
        }

        private void sailFrom(int at, int fuel, int[] to, int n, int times) {
            int way = at * COURSES;
            int price = n * COURSES;
            if (way < 0 || way + COURSES > behinds.length || price < 0 || price + COURSES > prices.length) {
                return;
            }
            for (int course = 0; course < COURSES; course++) {
                int behind = behinds[way + course];
                int left = fuel - times * prices[price + course];
                if (behind >= 0 && behind < to.length && left > to[behind]) {
                    to[behind] = left;
                }
            }
        }

        /** The k-th course of the helper's route, NONE if it has not so many. */
        int courseOf(int helper, int k) {
            int hours = earliestOf(helper);
            if (k < 0 || k >= hours) {
                return NONE;
            }
            Sailing sailing = sailingOf(helper);
            if (!sailing.routed) {
                lookAtNeeds(hours);
                walk(sailing.courses, read(world.places, helper), hours);
                sailing.routed = true;
            }
            return read(sailing.courses, k);
        }

        /** The least fuel, from each cell in each hour, to be where the drifter is in the last one. */
        private void lookAtNeeds(int hours) {
            if (hours < 0 || hours > AHEAD) {
                return;
            }
            begin(needs[hours], drifters[hours], 0);
            for (int n = hours - 1; n >= 0; n--) {
                for (int at = 0; at < cells && at < CELLS; at++) {
                    needs[n][at] = needFrom(at, n);
                }
            }
        }

        private int needFrom(int at, int n) {
            int least = NONE;
            for (int course = 0; course < COURSES; course++) {
                int need = needBy(at, course, n);
                if (need != NONE && (least == NONE || need < least)) {
                    least = need;
                }
            }
            return least;
        }

        private int needBy(int at, int course, int n) {
            if (n < 0 || n >= AHEAD) {
                return NONE;
            }
            int later = read(needs[n + 1], read(behinds, at * COURSES + course));
            return later == NONE ? NONE : later + read(prices, n * COURSES + course);
        }

        private void walk(int[] courses, int from, int hours) {
            int at = from;
            for (int n = 0; n < hours && n < courses.length; n++) {
                courses[n] = firstNeeding(read(needs[n], at), at, n);
                at = read(behinds, at * COURSES + courses[n]);
            }
        }

        private int firstNeeding(int need, int at, int n) {
            for (int course = 0; course < COURSES; course++) {
                if (needBy(at, course, n) == need) {
                    return course;
                }
            }
            return 0;
        }

        int leastOf(int helper, int hours) {
            int least = NONE;
            begin(turning[0], read(world.places, helper), PLENTY);
            for (int n = 0; n <= hours && n <= AHEAD && least != 0; n++) {
                if (n > 0) {
                    sailHour(turning[(n - 1) % 2], turning[n % 2], n - 1, 1);
                }
                int left = read(turning[n % 2], drifters[n]);
                if (left != NONE && (least == NONE || PLENTY - left < least)) {
                    least = PLENTY - left;
                }
            }
            return least;
        }

        int relayOf(int taker, int giver) {
            Arrays.fill(turning[0], NONE);
            for (int n = 0; n <= AHEAD; n++) {
                int[] row = turning[n % 2];
                if (n > 0) {
                    sailHour(turning[(n - 1) % 2], row, n - 1, 1);
                }
                giveFuel(mostsOf(taker, n), mostsOf(giver, n), row);
                if (read(row, drifters[n]) != NONE) {
                    return n;
                }
            }
            return NONE;
        }

        /** Puts in what the taker has where both can be, if it hasn't more there from an earlier giving. */
        private void giveFuel(int[] taker, int[] giver, int[] row) {
            for (int at = 0; at < cells; at++) {
                int own = read(taker, at);
                int given = read(giver, at);
                if (own != NONE && given != NONE) {
                    int both = Math.min(own + given, world.tank);
                    write(row, at, Math.max(read(row, at), both));
                }
            }
        }

        int homeOf(int helper, int what) {
            int met = earliestOf(helper);
            if (met < 0) {
                return NONE;
            }
            begin(turning[met % 2], drifterIn(met), mostMeeting(helper, met));
            for (int n = met; n <= AHEAD; n++) {
                if (n > met) {
                    sailHour(turning[(n - 1) % 2], turning[n % 2], n - 1, 2);
                }
                int left = read(turning[n % 2], portIn(n));
                if (left != NONE) {
                    return what == 0 ? n : left;
                }
            }
            return NONE;
        }
    }
}
