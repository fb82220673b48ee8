import java.io.IOException;
import java.nio.file.Files;
import java.nio.file.Path;
import java.util.ArrayList;
import java.util.List;
import java.util.regex.Matcher;
import java.util.regex.Pattern;

/** The calls that README.md shows, in its order on one object, answer the number behind their "//". */
public final class ReadmeTest {
    private static final Pattern SHOWN = Pattern.compile("sea\\.(\\w+)\\(([^)]*)\\); *// (-?\\d+): .*");

    private final Check check = new Check("readme");
    private final SeaMeeting sea = new SeaMeeting();

    public static void main(String[] args) throws IOException {
        ReadmeTest test = new ReadmeTest();
        int shown = 0;
        for (String line : Files.readAllLines(Path.of("README.md"))) {
            Matcher call = SHOWN.matcher(line);
            boolean isCall = call.matches();
            test.check.same("is told with its answer: " + line, Boolean.toString(line.startsWith("sea.")),
                    Boolean.toString(isCall));
            if (isCall) {
                shown++;
                test.ask(call.group(1), numbers(call.group(2)), Long.parseLong(call.group(3)));
            }
        }
        test.check.same("calls that README.md shows", "16", Integer.toString(shown));
        test.check.end();
    }

    private static List<Integer> numbers(String listed) {
        List<Integer> all = new ArrayList<>();
        for (String number : listed.isEmpty() ? new String[0] : listed.split(", ")) {
            all.add(Integer.decode(number));
        }
        return all;
    }

    private void ask(String name, List<Integer> n, long want) {
        check.due(name + n, want, switch (name) {
            case "feed" -> () -> sea.feed(n.get(0), n.get(1), n.get(2), n.get(3), n.get(4));
            case "text" -> () -> sea.text(n.get(0));
            case "fault" -> sea::fault;
            case "hour" -> () -> sea.hour(n.get(0), n.get(1), n.get(2));
            case "undo" -> sea::undo;
            case "told" -> () -> sea.told(n.get(0));
            case "helper" -> () -> sea.helper(n.get(0), n.get(1));
            case "meet" -> () -> sea.meet(n.get(0), n.get(1));
            case "route" -> () -> sea.route(n.get(0), n.get(1));
            case "home" -> () -> sea.home(n.get(0), n.get(1));
            default -> throw new IllegalStateException("README.md shows a call that this test does not know: " + name);
        });
    }
}
