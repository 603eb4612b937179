import java.nio.file.Files;
import java.nio.file.Path;
import java.util.ArrayList;
import java.util.List;
import java.util.regex.Matcher;
import java.util.regex.Pattern;

/** Each line of README.md's examples answers what is written behind it. */
public final class ReadmeTest {
    private static final Pattern CALL = Pattern.compile("x\\.(\\w+)\\(([^()]*)\\);\\s*// (true|false|-?\\d+).*");
    private static final String TEXT = "String text = \"";

    public static void main(String[] args) throws Exception {
        BandPress x = new BandPress();
        int calls = 0;
        for (String line : examples(Files.readString(Path.of("README.md")))) {
            Matcher call = CALL.matcher(line);
            if (line.startsWith(TEXT)) {
                type(x, line.substring(TEXT.length(), line.lastIndexOf('"')));
            } else if (line.startsWith("x.type('")) {
                x.type(line.charAt(8), 1);
            } else if (call.matches()) {
                calls++;
                Check.due("README.md: " + line, answer(x, call.group(1), call.group(2).split(", ")), due(call.group(3)));
            } else {
                Check.due("README.md: whether the test knows " + line, isFrame(line), true);
            }
        }
        Check.due("README.md: whether it has examples", calls > 20, true);
        Check.end();
    }

    private static List<String> examples(String readme) {
        List<String> lines = new ArrayList<>();
        boolean inside = false;
        for (String line : readme.split("\n")) {
            if (line.startsWith("```")) {
                inside = line.equals("```java");
            } else if (inside) {
                lines.add(line.trim());
            }
        }
        return lines;
    }

    /** The lines that make the object and type the text letter by letter. */
    private static boolean isFrame(String line) {
        return line.equals("BandPress x = new BandPress();") || line.startsWith("for (int k = 0; k < text.length()")
            || line.equals("x.type(text.charAt(k), 1);") || line.equals("}");
    }

    private static void type(BandPress x, String text) {
        for (int k = 0; k < text.length(); k++) {
            x.type(text.charAt(k), 1);
        }
    }

    private static long due(String written) {
        return written.equals("true") ? 1L : written.equals("false") ? 0L : Long.parseLong(written);
    }

    private static long answer(BandPress x, String name, String[] arguments) {
        boolean on = arguments.length > 1 && arguments[1].equals("true");
        int a = name.equals("type") ? 0 : Integer.parseInt(arguments[0]);
        switch (name) {
            case "type": return count(x.type(Long.decode(arguments[0]), Integer.parseInt(arguments[1])));
            case "start": return x.start(a, on, Integer.parseInt(arguments[2]));
            case "run": return x.run(a);
            case "job": return x.job(a);
            case "pixel": return count(x.pixel(a, Integer.parseInt(arguments[1]), Integer.parseInt(arguments[2])));
            case "band": return x.band(a, Integer.parseInt(arguments[1]));
            case "octet": return x.octet(a, Integer.parseInt(arguments[1]), Integer.parseInt(arguments[2]));
            case "tick": return x.tick(a);
            case "stick": return count(x.stick(a, on));
            case "take": return count(x.take(a));
            case "load": return x.load(a);
            case "section": return x.section(a, Integer.parseInt(arguments[1]));
            case "out": return x.out(a, Integer.parseInt(arguments[1]));
            case "press": return x.press(a);
            default: return -999L;
        }
    }

    private static long count(boolean answer) {
        return answer ? 1L : 0L;
    }
}
