import java.util.ArrayList;
import java.util.Collections;
import java.util.List;
import java.util.Random;

/** Long runs of calls, by fixed seeds, on the program and on Naive: each answer and each exception must be the same. */
public final class NaiveTest {
    private static final String[] WORDS = {"o", "n", "ne", "e", "se", "s", "sw", "w", "nw"};

    /** An object answers 512 calls; one turn here makes at most 40. */
    private static final int MOST_CALLS = 465;

    private final Check check = new Check("naive");
    private Random random;
    private SeaMeeting sea;
    private Naive naive;
    private String run;
    private String told;
    private int calls;

    public static void main(String[] args) {
        NaiveTest test = new NaiveTest();
        int seeds = args.length > 0 ? Integer.parseInt(args[0]) : 200;
        int from = args.length > 1 ? Integer.parseInt(args[1]) : 0;
        for (int seed = from; seed < from + seeds; seed++) {
            test.texts(seed);
            test.runs(seed);
            test.wild(seed);
        }
        test.check.end();
    }

    /** Texts, most of them spoilt in one place. */
    private void texts(int seed) {
        begin("texts " + seed, 1000 + seed);
        while (calls < MOST_CALLS) {
            String text = random.nextInt(4) == 0 ? anyText(8) : spoilt(anyText(8));
            tell(text.substring(0, Math.min(400, text.length())));
            both("fault()", () -> sea.fault(), () -> naive.fault());
            for (int what = 0; what <= 12; what++) {
                int asked = what;
                both("told(" + what + ")", () -> sea.told(asked), () -> naive.told(asked));
            }
            both("print()", () -> sea.print(), () -> naive.print());
        }
        status();
    }

    private void runs(int seed) {
        begin("run " + seed, seed);
        int limit = seed % 8 == 0 ? 8 : 5;
        tell(anyText(limit));
        while (calls < MOST_CALLS) {
            if (random.nextInt(3) == 0) {
                act(limit);
            } else {
                ask();
            }
        }
        status();
    }

    /** Any arguments at all. */
    private void wild(int seed) {
        begin("wild " + seed, 2000 + seed);
        tell(anyText(4));
        while (calls < MOST_CALLS) {
            int a = wild();
            int b = wild();
            int c = wild();
            int d = wild();
            String with = "(" + a + ", " + b + ", " + c + ", " + d + ")";
            switch (random.nextInt(22)) {
                case 0 -> both("feed" + with, () -> sea.feed(a, b, c, d, a), () -> naive.feed(a, b, c, d, a));
                case 1 -> both("text" + with, () -> sea.text(a), () -> naive.text(a));
                case 2 -> both("hour" + with, () -> sea.hour(a, b, c), () -> naive.hour(a, b, c));
                case 3 -> both("fuel" + with, () -> sea.fuel(a, b), () -> naive.fuel(a, b));
                case 4 -> both("wind" + with, () -> sea.wind(a, b), () -> naive.wind(a, b));
                case 5 -> both("undo()", () -> sea.undo(), () -> naive.undo());
                case 6 -> both("told" + with, () -> sea.told(a), () -> naive.told(a));
                case 7 -> both("cell" + with, () -> sea.cell(a, b, c), () -> naive.cell(a, b, c));
                case 8 -> both("blows" + with, () -> sea.blows(a), () -> naive.blows(a));
                case 9 -> both("helper" + with, () -> sea.helper(a, b), () -> naive.helper(a, b));
                case 10 -> both("drift" + with, () -> sea.drift(a, b), () -> naive.drift(a, b));
                case 11 -> both("cost" + with, () -> sea.cost(a, b), () -> naive.cost(a, b));
                case 12 -> both("meet" + with, () -> sea.meet(a, b), () -> naive.meet(a, b));
                case 13 -> both("route" + with, () -> sea.route(a, b), () -> naive.route(a, b));
                case 14 -> both("least" + with, () -> sea.least(a, b), () -> naive.least(a, b));
                case 15 -> both("reach" + with, () -> sea.reach(a, b), () -> naive.reach(a, b));
                case 16 -> both("most" + with, () -> sea.most(a, b, c, d), () -> naive.most(a, b, c, d));
                case 17 -> both("relay" + with, () -> sea.relay(a, b), () -> naive.relay(a, b));
                case 18 -> both("home" + with, () -> sea.home(a, b), () -> naive.home(a, b));
                case 19 -> both("status" + with, () -> sea.status(a), () -> naive.status(a));
                case 20 -> both("print()", () -> sea.print(), () -> naive.print());
                default -> both("first()", () -> sea.first(), () -> naive.first());
            }
        }
        status();
    }

    private int wild() {
        int[] edges = {Integer.MIN_VALUE, Integer.MAX_VALUE, -1, 3, 4, 8, 9, 12, 13, 20, 59, 60, 61, 560, 561};
        return random.nextInt(4) == 0 ? edges[random.nextInt(edges.length)] : random.nextInt(3);
    }

    private void begin(String name, int seed) {
        run = name;
        random = new Random(seed);
        sea = new SeaMeeting();
        naive = new Naive();
        told = "";
        calls = 0;
    }

    private void status() {
        for (int what = -1; what <= 3; what++) {
            int asked = what;
            both("status(" + what + ")", () -> sea.status(asked), () -> naive.status(asked));
        }
    }

    private void both(String call, Check.Call real, Check.Call plain) {
        calls++;
        check.same(run + " " + told + " " + call, Check.outcome(plain), Check.outcome(real));
    }

    private void tell(String text) {
        told = text;
        both("text(0)", () -> sea.text(0), () -> naive.text(0));
        for (int at = 0; at < text.length(); at += 20) {
            int[] p = new int[5];
            for (int i = 0; i < 20; i++) {
                p[i / 4] = p[i / 4] << 8 | (at + i < text.length() ? text.charAt(at + i) : 0);
            }
            both("feed", () -> sea.feed(p[0], p[1], p[2], p[3], p[4]), () -> naive.feed(p[0], p[1], p[2], p[3], p[4]));
        }
        int length = text.length();
        both("text(" + length + ")", () -> sea.text(length), () -> naive.text(length));
    }

    private void act(int limit) {
        int kind = random.nextInt(12);
        int a = random.nextInt(4) == 0 ? random.nextInt(10) - 1 : random.nextInt(9);
        int b = naive.told(3) > 1 ? random.nextInt(9) : random.nextInt(20) / 19;
        int c = naive.told(3) > 2 ? random.nextInt(9) : random.nextInt(20) / 19;
        if (kind < 6) {
            both("hour(" + a + ", " + b + ", " + c + ")", () -> sea.hour(a, b, c), () -> naive.hour(a, b, c));
            both("hour(0, 0, 0)", () -> sea.hour(0, 0, 0), () -> naive.hour(0, 0, 0));
        } else if (kind < 8) {
            int fuel = random.nextInt(45) - 2;
            int helper = random.nextInt(5) - 1;
            both("fuel(" + helper + ", " + fuel + ")", () -> sea.fuel(helper, fuel), () -> naive.fuel(helper, fuel));
        } else if (kind < 10) {
            int hour = naive.told(2) - 1 + random.nextInt(12);
            both("wind(" + hour + ", " + a + ")", () -> sea.wind(hour, a), () -> naive.wind(hour, a));
        } else if (kind == 10) {
            both("undo()", () -> sea.undo(), () -> naive.undo());
        } else if (random.nextInt(6) == 0) {
            tell(anyText(limit));
        }
    }

    private void ask() {
        int helper = random.nextInt(naive.told(3) + (random.nextInt(9) == 0 ? 2 : 0)) - random.nextInt(30) / 29;
        int other = random.nextInt(naive.told(3) + 1);
        int n = random.nextInt(3) == 0 ? random.nextInt(63) - 1 : random.nextInt(9);
        int what = random.nextInt(5) - random.nextInt(10) / 9;
        int x = random.nextInt(naive.told(0) + 1) - random.nextInt(10) / 9;
        int y = random.nextInt(naive.told(1) + 1) - random.nextInt(10) / 9;
        String of = "(" + helper + ", " + n + ")";
        switch (random.nextInt(16)) {
            case 0 -> both("told", () -> sea.told(what), () -> naive.told(what));
            case 1 -> both("cell", () -> sea.cell(x, y, what), () -> naive.cell(x, y, what));
            case 2 -> both("blows", () -> sea.blows(n), () -> naive.blows(n));
            case 3 -> both("helper", () -> sea.helper(helper, what), () -> naive.helper(helper, what));
            case 4 -> both("drift" + n + " " + what, () -> sea.drift(n, what), () -> naive.drift(n, what));
            case 5 -> both("cost", () -> sea.cost(other + 2 * what, n), () -> naive.cost(other + 2 * what, n));
            case 6, 7 -> both("meet" + helper + " " + what, () -> sea.meet(helper, what % 2),
                    () -> naive.meet(helper, what % 2));
            case 8 -> {
                for (int k = -1; k < 12; k++) {
                    int asked = k;
                    both("route" + helper + " " + k, () -> sea.route(helper, asked), () -> naive.route(helper, asked));
                }
            }
            case 9 -> both("first", () -> sea.first(), () -> naive.first());
            case 10 -> both("least" + of, () -> sea.least(helper, n), () -> naive.least(helper, n));
            case 11 -> both("reach" + of, () -> sea.reach(helper, n), () -> naive.reach(helper, n));
            case 12 -> both("most" + of + x + " " + y, () -> sea.most(helper, n, x, y),
                    () -> naive.most(helper, n, x, y));
            case 13 -> both("relay" + helper + other, () -> sea.relay(helper, other),
                    () -> naive.relay(helper, other));
            case 14 -> both("home" + helper + what, () -> sea.home(helper, what % 2),
                    () -> naive.home(helper, what % 2));
            default -> both("print", () -> sea.print(), () -> naive.print());
        }
    }

    // Texts: mostly without a fault, in a sea small enough for Naive.

    private String anyText(int limit) {
        int wide = 3 + random.nextInt(limit - 2);
        int high = 3 + random.nextInt(limit - 2);
        List<String> ships = new ArrayList<>();
        ships.add("drifter " + spot(wide, high) + random.nextInt(5) + ";");
        ships.add("port " + spot(wide, high) + row(random.nextInt(6)) + ";");
        for (int i = random.nextInt(30) == 0 ? 4 : 1 + random.nextInt(3); i > 0; i--) {
            ships.add("helper " + spot(wide, high) + random.nextInt(36) + ";");
        }
        List<String> all = new ArrayList<>(ships);
        if (random.nextInt(4) > 0) {
            all.add("wind" + row(1 + random.nextInt(6)) + ";");
        }
        if (random.nextInt(3) == 0) {
            all.add("tank " + (random.nextInt(9) == 0 ? 10 : 35 + random.nextInt(30)) + ";");
        }
        for (int i = random.nextInt(6); i > 0; i--) {
            all.add("current " + box(wide, high) + WORDS[random.nextInt(9)] + ";");
        }
        for (int i = random.nextInt(4) > 0 ? random.nextInt(wide * high / 4) : 0; i > 0; i--) {
            String spot = spot(wide, high);
            if (random.nextInt(30) == 0 || !ships.toString().contains(" " + spot)) {
                all.add("land " + spot + ";");
            }
        }
        Collections.shuffle(all, random);
        String text = "sea " + wide + " " + high + ";" + String.join(random.nextInt(5) == 0 ? " " : "", all);
        return text.length() > 400 ? text.substring(0, text.lastIndexOf(";", 399) + 1) : text;
    }

    private String spot(int wide, int high) {
        return random.nextInt(wide) + " " + random.nextInt(high) + " ";
    }

    private String box(int wide, int high) {
        int x = random.nextInt(wide);
        int y = random.nextInt(high);
        return x + " " + y + " " + (x + random.nextInt(wide - x)) + " " + (y + random.nextInt(high - y)) + " ";
    }

    private String row(int length) {
        StringBuilder row = new StringBuilder();
        for (int i = 0; i < length; i++) {
            row.append(' ').append(WORDS[random.nextInt(9)]);
        }
        return row.toString();
    }

    private String spoilt(String text) {
        int at = random.nextInt(text.length());
        String bad = " ;0129axnsew-\u00e9\u0000".substring(random.nextInt(15)).substring(0, 1);
        return switch (random.nextInt(6)) {
            case 0 -> text.substring(0, at);
            case 1 -> text.substring(0, at) + text.substring(at + 1);
            case 2 -> text.substring(0, at) + bad + text.substring(at);
            case 3 -> text.substring(0, at) + " " + text.substring(at);
            case 4 -> text.replaceFirst("(sea|land|current|helper) ", "$1 " + random.nextInt(4));
            default -> text.substring(0, at) + bad + text.substring(at + 1);
        };
    }
}
