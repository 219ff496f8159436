import java.io.IOException;
import java.lang.reflect.Method;
import java.nio.file.Files;
import java.nio.file.Path;
import java.util.ArrayList;
import java.util.List;
import java.util.Map;
import java.util.TreeMap;
import java.util.regex.Matcher;
import java.util.regex.Pattern;

/** What README.md says of the class is what the document says, and what the class does. */
public final class ReadmeTest extends Checks {
    private static String readme = "";
    private static String doc = "";

    private static List<String> found(String pattern, String in) {
        List<String> all = new ArrayList<>();
        Matcher m = Pattern.compile(pattern).matcher(in);
        while (m.find()) {
            all.add(m.group(1));
        }
        return all;
    }

    private static String name(String signature) {
        return signature.replaceAll("^\\w+ |\\(.*", "");
    }

    private static void same(String what, Object got, Object want) {
        due(what + ": " + got + ", in the document: " + want, got.equals(want) ? 1 : 0, 1);
    }

    /** What stands behind each promise's headline, by its call. */
    private static Map<String, String> promises() {
        Map<String, String> by = new TreeMap<>();
        Matcher m = Pattern.compile("(?s)## Promise \\d+: (\\w+)\n(.*?)(?=\n## )").matcher(doc);
        while (m.find()) {
            by.put(m.group(1), m.group(2));
        }
        return by;
    }

    private static List<String> refusals(String in) {
        return found("(\\b(?:BAD|FULL|STATE|NONE|NO)\\b|-(?:5|7|11|12|13|14)\\b)", in);
    }

    private static List<String> ranges(String in) {
        return found("(\\d+ \\.\\. \\d+)", in);
    }

    private static void calls() {
        about("the calls of README.md");
        same("they are the face's, in its order", found("(?m)^\\| `((?:int|long) \\w+\\([^)]*\\))` \\|", readme),
                found("(?m)^    public ((?:int|long) \\w+\\([^)]*\\));", doc));
        Map<String, String> promises = promises();
        String terms = doc.substring(doc.indexOf("## Terms"), doc.indexOf("## Promise 1:"));
        int rows = 0;
        for (String row : found("(?m)^\\| `((?:int|long) .*) \\|$", readme)) {
            rows++;
            String[] cells = row.split(" \\|", -1);
            String call = name(cells[0]);
            due(call + " has three cells", cells.length, 3);
            same("the refusals of " + call, refusals(cells[2]), refusals(promises.getOrDefault(call, "")));
            List<String> ranges = ranges(terms + promises.getOrDefault(call, ""));
            for (String range : ranges(row)) {
                due(range + " is one of " + call, ranges.contains(range) ? 1 : 0, 1);
            }
            same("a -1 as an answer of " + call, cells[1].contains("-1: "), promises.getOrDefault(call, "").contains("-1: "));
        }
        due("rows", rows, 54);
    }

    private static void numbers() {
        about("the numbers of README.md");
        List<String> ranges = ranges(doc);
        for (String range : ranges(readme)) {
            due(range + " stands in the document", ranges.contains(range) ? 1 : 0, 1);
        }
        for (String constant : found("(?m)^\\| `([A-Z]+)` -\\d \\|", readme)) {
            String value = found("\\| `" + constant + "` (-\\d) \\|", readme).get(0);
            due(constant, doc.contains(constant + " = " + value) ? 1 : 0, 1);
        }
        String most = readme.substring(readme.indexOf("There are at most"), readme.indexOf("A call that makes one"));
        String[] full = {"FUSES", "LAMPS", "HOUSES", "ASKS", "LABELS", "TEXTS"};
        for (int i = 0; i < full.length; i++) {
            int n = Integer.parseInt(found("(\\d+) " + full[i], most).get(0));
            due("how many " + full[i], filled(i), n);
        }
        for (String rule : found("(?m)^(?:E|AND|NOT|SUM|TERM|ONE|NAME) +(.*)$", readme)) {
            due(rule + " stands in the document", doc.contains(rule) ? 1 : 0, 1);
        }
        String first = found("TEXT 0 is\n`(.*)`", readme).get(0);
        due("TEXT 0 stands in the document", doc.contains("TEXT 0, at first, and THE LAW: " + first) ? 1 : 0, 1);
    }

    /** How many there are of a sort, once there may be no more. */
    private static int filled(int sort) {
        WhichSwitch x = fused(1);
        int answer = 0;
        for (int n = 0; n < 99 && answer != FULL; n++) {
            switch (sort) {
                case 0: answer = x.fuse(0, 1); break;
                case 1: answer = x.lamp(0, 1, 0, 0); break;
                case 2: answer = house(x); break;
                case 3: answer = x.ask(0, 0); break;
                case 4: answer = label(x, 1); break;
                default: answer = text(x, "glow 1;tone 1;load 1;"); break;
            }
        }
        return x.count(4 + sort);
    }

    private static long answered(WhichSwitch x, String call, String[] given) throws ReflectiveOperationException {
        for (Method m : WhichSwitch.class.getMethods()) {
            if (m.getName().equals(call) && m.getParameterCount() == given.length) {
                Object[] numbers = new Object[given.length];
                for (int i = 0; i < given.length; i++) {
                    boolean isLong = m.getParameterTypes()[i] == long.class;
                    numbers[i] = isLong ? (Object) Long.valueOf(given[i]) : (Object) Integer.valueOf(given[i]);
                }
                return ((Number) m.invoke(x, numbers)).longValue();
            }
        }
        throw new NoSuchMethodException(call);
    }

    private static void example() throws ReflectiveOperationException {
        about("the example of README.md");
        WhichSwitch x = new WhichSwitch();
        int lines = 0;
        Matcher m = Pattern.compile("(?m)^x\\.(\\w+)\\((.*)\\); +// (-?\\d+): ").matcher(readme);
        while (m.find()) {
            lines++;
            String[] given = m.group(2).isEmpty() ? new String[0] : m.group(2).split(", ");
            due(m.group(1) + "(" + m.group(2) + ")", answered(x, m.group(1), given), Long.parseLong(m.group(3)));
        }
        due("each line of it has an answer", lines, found("(?m)^(x\\.)", readme).size());
        due("it is there", lines > 0 ? 1 : 0, 1);
    }

    private static void tests() throws IOException {
        about("the tests of README.md");
        try (var files = Files.list(Path.of("src/test/java"))) {
            for (Path file : files.toList()) {
                String test = file.getFileName().toString().replace(".java", "");
                due(test + " is told", readme.contains("`" + test + "`") ? 1 : 0, 1);
            }
        }
    }

    public static void main(String[] args) throws IOException, ReflectiveOperationException {
        readme = Files.readString(Path.of("README.md"));
        doc = Files.readString(Path.of("../shared/DOC.md"));
        calls();
        numbers();
        example();
        tests();
        end("README.md");
    }
}
