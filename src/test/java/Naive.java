import java.util.ArrayList;
import java.util.HashMap;
import java.util.HashSet;
import java.util.List;
import java.util.Map;
import java.util.NoSuchElementException;
import java.util.Set;
import java.util.TreeSet;

/**
 * The document once more, in the plainest way and built unlike the program: sets of all states that can be instead of
 * the most fuel, a text told apart into tokens first and all its faults gathered, whole copies for undo().
 */
final class Naive {
    private static final String[] WORDS = {"o", "n", "ne", "e", "se", "s", "sw", "w", "nw"};
    private static final int[][] STEPS = {
        {0, 0}, {0, 1}, {1, 1}, {1, 0}, {1, -1}, {0, -1}, {-1, -1}, {-1, 0}, {-1, 1}
    };

    /** A place that something is at, by x and y. */
    record Spot(int x, int y) {
    }

    record State(Spot at, int fuel) {
    }

    record Token(int start, char kind, String text) {
    }

    static final class Told {
        int wide = 3;
        int high = 3;
        int hour = 0;
        int tank = 999;
        int leeway = 0;
        Spot drifter = new Spot(0, 0);
        Spot port = new Spot(1, 1);
        List<Integer> winds = new ArrayList<>();
        List<Integer> turns = new ArrayList<>();
        Set<Spot> lands = new HashSet<>();
        Map<Spot, Integer> currents = new HashMap<>();
        Map<Integer, Integer> byHand = new HashMap<>();
        List<State> helpers = new ArrayList<>();

        Told copy() {
            Told copy = new Told();
            copy.wide = wide;
            copy.high = high;
            copy.hour = hour;
            copy.tank = tank;
            copy.leeway = leeway;
            copy.drifter = drifter;
            copy.port = port;
            copy.winds = new ArrayList<>(winds);
            copy.turns = new ArrayList<>(turns);
            copy.lands = new HashSet<>(lands);
            copy.currents = new HashMap<>(currents);
            copy.byHand = new HashMap<>(byHand);
            copy.helpers = new ArrayList<>(helpers);
            return copy;
        }
    }

    private Told now = new Told();
    private final List<Told> kept = new ArrayList<>();
    private final StringBuilder tape = new StringBuilder();
    private int faultPlace = -1;
    private final int[] refused = new int[3];

    Naive() {
        now.helpers.add(new State(new Spot(2, 2), 10));
    }

    // Refusals.

    private void needHelper(int helper) {
        if (helper < 0 || helper >= now.helpers.size()) {
            refused[0]++;
            throw new NoSuchElementException();
        }
    }

    private void needNumber(boolean holds) {
        if (!holds) {
            refused[1]++;
            throw new IllegalArgumentException();
        }
    }

    private void needState(boolean holds) {
        if (!holds) {
            refused[2]++;
            throw new IllegalStateException();
        }
    }

    private void act() {
        kept.add(now.copy());
        while (kept.size() > 8) {
            kept.remove(0);
        }
    }

    // The sea.

    private boolean onSea(Spot at) {
        return at.x() >= 0 && at.x() < now.wide && at.y() >= 0 && at.y() < now.high;
    }

    /** The cell behind a step, null if it is not made. */
    private Spot step(Spot at, int direction) {
        Spot to = new Spot(at.x() + STEPS[direction][0], at.y() + STEPS[direction][1]);
        return direction == 0 || !onSea(to) || now.lands.contains(to) ? null : to;
    }

    private Spot carried(Spot at, int direction) {
        Spot to = step(at, direction);
        return to == null ? at : to;
    }

    private Spot drifterAt(int n) {
        Spot at = now.drifter;
        for (int t = now.hour; t < now.hour + n; t++) {
            at = carried(at, now.currents.getOrDefault(at, 0));
            if (now.leeway > 0 && (t + 1) % now.leeway == 0) {
                at = carried(at, windAt(t));
            }
        }
        return at;
    }

    private Spot portAt(int n) {
        Spot at = now.port;
        for (int t = now.hour; t < now.hour + n; t++) {
            at = now.turns.isEmpty() ? at : carried(at, now.turns.get(t % now.turns.size()));
        }
        return at;
    }

    private int windAt(int hour) {
        int told = now.winds.isEmpty() ? 0 : now.winds.get(hour % now.winds.size());
        return now.byHand.getOrDefault(hour, told);
    }

    private int price(int course, int hour) {
        int wind = windAt(hour);
        if (course == 0) {
            return 0;
        }
        if (wind == 0) {
            return 3;
        }
        int eighths = 0;
        while ((course - 1 + eighths) % 8 != wind - 1 && (course + 7 - eighths) % 8 != wind - 1) {
            eighths++;
        }
        return 1 + eighths;
    }

    /** The state behind a course, null if it can't be. */
    private State sailed(State from, int course, int hour, int times) {
        Spot to = course == 0 ? from.at() : step(from.at(), course);
        int left = from.fuel() - times * price(course, hour);
        return to == null || left < 0 ? null : new State(carried(to, now.currents.getOrDefault(to, 0)), left);
    }

    private Set<State> sailed(Set<State> from, int hour, int times) {
        Set<State> to = new HashSet<>();
        for (State state : from) {
            for (int course = 0; course <= 8; course++) {
                State next = sailed(state, course, hour, times);
                if (next != null) {
                    to.add(next);
                }
            }
        }
        return to;
    }

    private static int mostAt(Set<State> states, Spot at) {
        int most = -1;
        for (State state : states) {
            most = state.at().equals(at) ? Math.max(most, state.fuel()) : most;
        }
        return most;
    }

    /** All states of a helper for each hour to n. */
    private List<Set<State>> ahead(State from, int n) {
        List<Set<State>> rows = new ArrayList<>();
        rows.add(Set.of(from));
        for (int i = 0; i < n; i++) {
            rows.add(sailed(rows.get(i), now.hour + i, 1));
        }
        return rows;
    }

    /** Hours and most fuel of the earliest meeting. */
    private int[] earliest(State from, int n) {
        Set<State> states = Set.of(from);
        for (int i = 0; i <= n; i++) {
            int most = mostAt(states, drifterAt(i));
            if (most >= 0) {
                return new int[] {i, most};
            }
            states = i < n ? sailed(states, now.hour + i, 1) : states;
        }
        return new int[] {-1, -1};
    }

    // The text.

    private static List<Token> tokens(String text) {
        List<Token> all = new ArrayList<>();
        int at = 0;
        while (at < text.length()) {
            String rest = text.substring(at);
            String run = rest.replaceFirst("(?s)^([0-9]+|[a-z]+|.).*$", "$1");
            char c = run.charAt(0);
            char kind = c >= '0' && c <= '9' ? 'N' : c >= 'a' && c <= 'z' ? 'W' : c;
            if (kind != ' ') {
                all.add(new Token(at, kind, run));
            }
            at += run.length();
        }
        all.add(new Token(text.length(), '.', ""));
        return all;
    }

    private final class Reading {
        final List<Token> tokens;
        final TreeSet<Integer> faults = new TreeSet<>();
        final Told told = new Told();
        final Set<String> once = new HashSet<>();
        int next = 0;
        boolean stands = true;

        Reading(String text) {
            tokens = tokens(text);
        }

        /** Faults in the order in which the document counts them. */
        void fault(int kind, int place) {
            faults.add(place * 10 + kind);
        }

        Token take(char kind) {
            Token token = tokens.get(next);
            if (!stands || token.kind() != kind) {
                if (stands) {
                    fault(1, token.start());
                }
                stands = false;
                return null;
            }
            next++;
            return token;
        }

        int number(int least, int most) {
            Token token = take('N');
            if (token == null) {
                return -1;
            }
            java.math.BigInteger value = new java.math.BigInteger(token.text());
            int small = value.min(java.math.BigInteger.valueOf(5000)).intValue();
            if (small < least || small > most) {
                fault(2, token.start());
            }
            return small;
        }

        int direction() {
            Token token = take('W');
            if (token == null) {
                return -1;
            }
            int found = List.of(WORDS).indexOf(token.text());
            if (found < 0) {
                fault(1, token.start());
                stands = false;
            }
            return found;
        }

        List<Integer> directions(int least, int most) {
            List<Integer> all = new ArrayList<>();
            while (stands && (all.size() < least || tokens.get(next).kind() != ';')) {
                if (all.size() == most) {
                    fault(1, tokens.get(next).start());
                    stands = false;
                } else {
                    all.add(direction());
                }
            }
            return all;
        }

        Spot cell(boolean ship) {
            int start = tokens.get(next).start();
            int x = number(0, told.wide - 1);
            int y = number(0, told.high - 1);
            Spot at = new Spot(x, y);
            if (stands && ship && told.lands.contains(at)) {
                fault(3, start);
            }
            if (stands && !ship && taken(at)) {
                fault(3, start);
            }
            return at;
        }

        boolean taken(Spot at) {
            boolean found = once.contains("drifter") && told.drifter.equals(at);
            found |= once.contains("port") && told.port.equals(at);
            for (State helper : told.helpers) {
                found |= helper.at().equals(at);
            }
            return found;
        }

        void read() {
            Token word = take('W');
            if (word != null && !word.text().equals("sea")) {
                fault(1, word.start());
                stands = false;
            }
            told.wide = number(3, 20);
            told.high = number(3, 12);
            take(';');
            while (stands && tokens.get(next).kind() != '.') {
                sentence();
            }
            if (faults.isEmpty() && !(once.contains("drifter") && once.contains("port") && once.contains("helper"))) {
                fault(5, tokens.get(tokens.size() - 1).start());
            }
        }

        void sentence() {
            Token word = take('W');
            if (word == null) {
                return;
            }
            boolean second = !once.add(word.text());
            if (second && List.of("wind", "drifter", "port", "tank").contains(word.text())) {
                fault(1, word.start());
                stands = false;
                return;
            }
            switch (word.text()) {
                case "land" -> told.lands.add(landed());
                case "current" -> current();
                case "wind" -> told.winds = directions(1, 24);
                case "drifter" -> {
                    once.remove("drifter");
                    told.drifter = cell(true);
                    once.add("drifter");
                    told.leeway = number(0, 9);
                }
                case "helper" -> {
                    if (told.helpers.size() == 3) {
                        fault(4, word.start());
                    }
                    Spot at = cell(true);
                    told.helpers.add(new State(at, number(0, once.contains("tank") ? told.tank : 999)));
                }
                case "port" -> {
                    told.port = cell(true);
                    told.turns = directions(0, 12);
                }
                case "tank" -> told.tank = number(1, 999);
                default -> {
                    fault(1, word.start());
                    stands = false;
                }
            }
            take(';');
        }

        Spot landed() {
            return cell(false);
        }

        void current() {
            int west = number(0, told.wide - 1);
            int south = number(0, told.high - 1);
            int east = number(west, told.wide - 1);
            int north = number(south, told.high - 1);
            int by = direction();
            if (!faults.isEmpty()) {
                return;
            }
            for (int x = west; x <= east; x++) {
                for (int y = south; y <= north; y++) {
                    told.currents.put(new Spot(x, y), by);
                }
            }
        }
    }

    // The face.

    int feed(int a, int b, int c, int d, int e) {
        if (tape.length() > 380) {
            return -1;
        }
        for (int number : new int[] {a, b, c, d, e}) {
            tape.append((char) (number >> 24 & 255)).append((char) (number >> 16 & 255));
            tape.append((char) (number >> 8 & 255)).append((char) (number & 255));
        }
        return tape.length();
    }

    int text(int n) {
        needNumber(n >= 0 && n <= tape.length());
        Reading reading = new Reading(tape.substring(0, n));
        tape.setLength(0);
        reading.read();
        if (!reading.faults.isEmpty()) {
            faultPlace = reading.faults.first() / 10;
            return reading.faults.first() % 10 - 10;
        }
        faultPlace = -1;
        act();
        now = reading.told;
        return now.helpers.size();
    }

    int fault() {
        return faultPlace;
    }

    int hour(int one, int two, int three) {
        int[] courses = {one, two, three};
        for (int i = 0; i < 3; i++) {
            needNumber(courses[i] >= 0 && courses[i] <= (i < now.helpers.size() ? 8 : 0));
        }
        List<State> behind = new ArrayList<>();
        for (int i = 0; i < now.helpers.size(); i++) {
            behind.add(sailed(now.helpers.get(i), courses[i], now.hour, 1));
        }
        needState(!behind.contains(null) && now.hour < 500);
        act();
        Spot drifter = drifterAt(1);
        now.port = portAt(1);
        now.drifter = drifter;
        now.helpers = behind;
        now.hour++;
        int bits = 0;
        for (int i = 0; i < behind.size(); i++) {
            bits += behind.get(i).at().equals(drifter) ? 1 << i : 0;
        }
        return bits;
    }

    int fuel(int helper, int n) {
        needHelper(helper);
        needNumber(n >= 0 && n <= now.tank);
        act();
        State was = now.helpers.get(helper);
        now.helpers.set(helper, new State(was.at(), n));
        return was.fuel();
    }

    int wind(int hour, int direction) {
        needNumber(hour >= now.hour && hour <= 560 && direction >= 0 && direction <= 8);
        act();
        int was = windAt(hour);
        now.byHand.put(hour, direction);
        return was;
    }

    int undo() {
        if (kept.isEmpty()) {
            return -1;
        }
        now = kept.remove(kept.size() - 1);
        return kept.size();
    }

    int told(int what) {
        needNumber(what >= 0 && what <= 12);
        return new int[] {now.wide, now.high, now.hour, now.helpers.size(), now.tank, now.leeway, now.lands.size(),
            now.drifter.x(), now.drifter.y(), now.port.x(), now.port.y(), tape.length(), kept.size()}[what];
    }

    int cell(int x, int y, int what) {
        Spot at = new Spot(x, y);
        needNumber(onSea(at) && (what == 0 || what == 1));
        return what == 0 ? (now.lands.contains(at) ? 1 : 0) : now.currents.getOrDefault(at, 0);
    }

    int blows(int hour) {
        needNumber(hour >= 0 && hour <= 560);
        return windAt(hour);
    }

    int helper(int helper, int what) {
        needHelper(helper);
        needNumber(what >= 0 && what <= 3);
        State state = now.helpers.get(helper);
        return new int[] {state.at().x(), state.at().y(), state.fuel(), state.at().equals(now.drifter) ? 1 : 0}[what];
    }

    int drift(int n, int what) {
        needNumber(n >= 0 && n <= 60 && what >= 0 && what <= 3);
        Spot at = what < 2 ? drifterAt(n) : portAt(n);
        return what == 0 || what == 2 ? at.x() : at.y();
    }

    int cost(int course, int n) {
        needNumber(course >= 1 && course <= 8 && n >= 0 && n <= 59);
        return price(course, now.hour + n);
    }

    int meet(int helper, int what) {
        needHelper(helper);
        needNumber(what == 0 || what == 1);
        return earliest(now.helpers.get(helper), 60)[what];
    }

    int route(int helper, int k) {
        needHelper(helper);
        int[] met = earliest(now.helpers.get(helper), 60);
        if (k < 0 || k >= met[0]) {
            return -1;
        }
        List<Integer> row = new ArrayList<>();
        firstRow(now.helpers.get(helper), row, met, new HashSet<>());
        return row.get(k);
    }

    /** Tries all rows, the least first; what was tried in vain is not tried again. */
    private boolean firstRow(State from, List<Integer> row, int[] met, Set<List<Object>> vain) {
        if (row.size() == met[0]) {
            return from.at().equals(drifterAt(met[0])) && from.fuel() == met[1];
        }
        if (vain.contains(List.<Object>of(from, row.size()))) {
            return false;
        }
        for (int course = 0; course <= 8; course++) {
            State next = sailed(from, course, now.hour + row.size(), 1);
            if (next != null) {
                row.add(course);
                if (firstRow(next, row, met, vain)) {
                    return true;
                }
                row.remove(row.size() - 1);
            }
        }
        vain.add(List.<Object>of(from, row.size()));
        return false;
    }

    int first() {
        int found = -1;
        int least = 61;
        for (int i = now.helpers.size() - 1; i >= 0; i--) {
            int hours = earliest(now.helpers.get(i), 60)[0];
            if (hours >= 0 && hours <= least) {
                least = hours;
                found = i;
            }
        }
        return found;
    }

    int least(int helper, int n) {
        needHelper(helper);
        needNumber(n >= 0 && n <= 60);
        Spot at = now.helpers.get(helper).at();
        if (earliest(new State(at, 300), n)[0] < 0) {
            return -1;
        }
        int fuel = 0;
        while (earliest(new State(at, fuel), n)[0] < 0) {
            fuel++;
        }
        return fuel;
    }

    int reach(int helper, int n) {
        needHelper(helper);
        needNumber(n >= 0 && n <= 60);
        Set<Spot> cells = new HashSet<>();
        for (State state : ahead(now.helpers.get(helper), n).get(n)) {
            cells.add(state.at());
        }
        return cells.size();
    }

    int most(int helper, int n, int x, int y) {
        needHelper(helper);
        needNumber(n >= 0 && n <= 60 && onSea(new Spot(x, y)));
        return mostAt(ahead(now.helpers.get(helper), n).get(n), new Spot(x, y));
    }

    int relay(int one, int other) {
        needHelper(one);
        needHelper(other);
        needNumber(one != other);
        List<Set<State>> takers = ahead(now.helpers.get(one), 60);
        List<Set<State>> givers = ahead(now.helpers.get(other), 60);
        Set<State> gone = new HashSet<>();
        for (int n = 0; n <= 60; n++) {
            gone = n == 0 ? gone : sailed(gone, now.hour + n - 1, 1);
            for (State taker : takers.get(n)) {
                int own = mostAt(takers.get(n), taker.at());
                int given = mostAt(givers.get(n), taker.at());
                if (given >= 0) {
                    gone.add(new State(taker.at(), Math.min(now.tank, own + given)));
                }
            }
            if (mostAt(gone, drifterAt(n)) >= 0) {
                return n;
            }
        }
        return -1;
    }

    int home(int helper, int what) {
        needHelper(helper);
        needNumber(what == 0 || what == 1);
        int[] met = earliest(now.helpers.get(helper), 60);
        if (met[0] < 0) {
            return -1;
        }
        Set<State> states = Set.of(new State(drifterAt(met[0]), met[1]));
        for (int n = met[0]; n <= 60; n++) {
            int left = mostAt(states, portAt(n));
            if (left >= 0) {
                return what == 0 ? n : left;
            }
            states = sailed(states, now.hour + n, 2);
        }
        return -1;
    }

    long print() {
        long sum = now.drifter.y() * now.wide + now.drifter.x();
        sum = sum * 31 + now.port.y() * now.wide + now.port.x();
        for (State helper : now.helpers) {
            sum = sum * 31 + helper.at().y() * now.wide + helper.at().x();
            sum = sum * 31 + helper.fuel();
        }
        return sum;
    }

    int status(int what) {
        return what >= 0 && what < 3 ? refused[what] : -1;
    }
}
