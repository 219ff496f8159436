import java.lang.management.ManagementFactory;
import java.lang.reflect.Constructor;
import java.lang.reflect.Field;
import java.lang.reflect.Method;
import java.lang.reflect.Modifier;
import java.nio.file.Files;
import java.nio.file.Path;
import java.util.ArrayList;
import java.util.List;
import java.util.TreeSet;
import java.util.regex.Matcher;
import java.util.regex.Pattern;

/** The face of the document and those rules of LANGUAGE.md that can be seen from outside or from the source's words. */
public final class RulesTest {
    private static int wrong = 0;

    private static void due(boolean holds, String what) {
        if (!holds) {
            wrong++;
            System.out.println("it does not hold: " + what);
        }
    }

    private static String signature(Method m) {
        List<String> types = new ArrayList<>();
        for (Class<?> type : m.getParameterTypes()) {
            types.add(type.getSimpleName());
        }
        return m.getReturnType().getSimpleName() + " " + m.getName() + types;
    }

    private static TreeSet<String> facesMethods() throws Exception {
        TreeSet<String> due = new TreeSet<>();
        String doc = Files.readString(Path.of("../shared/DOC.md"));
        Matcher m = Pattern.compile("(?m)^    public (int|long) (\\w+)\\(([^)]*)\\);").matcher(doc);
        while (m.find()) {
            List<String> types = new ArrayList<>();
            for (String parameter : m.group(3).isEmpty() ? new String[0] : m.group(3).split(", ")) {
                types.add(parameter.split(" ")[0]);
            }
            due.add(m.group(1) + " " + m.group(2) + types);
        }
        return due;
    }

    private static void face() throws Exception {
        TreeSet<String> publics = new TreeSet<>();
        TreeSet<String> names = new TreeSet<>();
        for (Method m : WhichSwitch.class.getDeclaredMethods()) {
            if (Modifier.isPublic(m.getModifiers())) {
                publics.add(signature(m));
                names.add(m.getName());
                due(!Modifier.isStatic(m.getModifiers()), m + " is no static one");
            }
        }
        due(publics.size() == 54, "54 methods, not " + publics.size());
        due(publics.equals(facesMethods()), "the public methods are the document's: " + publics);
        due(Modifier.isPublic(WhichSwitch.class.getModifiers()), "the class is public");
        due(Modifier.isFinal(WhichSwitch.class.getModifiers()), "the class is final");
        TreeSet<String> constants = new TreeSet<>();
        for (Field f : WhichSwitch.class.getFields()) {
            constants.add(f.getType() + " " + f.getName());
        }
        due(constants.toString().equals("[int BAD, int FULL, int NONE, int STATE, long NO]"), "constants: " + constants);
        insides(names);
    }

    private static void insides(TreeSet<String> names) {
        List<Class<?>> classes = new ArrayList<>(List.of(WhichSwitch.class.getDeclaredClasses()));
        due(classes.size() <= 12, "at most some twelve classes");
        for (Class<?> c : classes) {
            due(Modifier.isStatic(c.getModifiers()), c + " is static");
            due(!Modifier.isPublic(c.getModifiers()) && !Modifier.isProtected(c.getModifiers()), c + " is not public");
        }
        classes.add(WhichSwitch.class);
        for (Class<?> c : classes) {
            int fields = 0;
            for (Field f : c.getDeclaredFields()) {
                boolean isStatic = Modifier.isStatic(f.getModifiers());
                due(!isStatic || Modifier.isFinal(f.getModifiers()), f + " is final");
                due(Modifier.isPrivate(f.getModifiers()) || Modifier.isPublic(f.getModifiers()), f + " is private");
                fields += isStatic ? 0 : 1;
            }
            due(fields <= 20, c + " has at most some twenty fields");
            for (Method m : c.getDeclaredMethods()) {
                boolean isPrivate = Modifier.isPrivate(m.getModifiers());
                due(isPrivate || c == WhichSwitch.class, m + " is private");
                due(!isPrivate || !names.contains(m.getName()), m + " bears the name of no public one");
                due(m.getParameterCount() <= 7, m + " takes at most seven");
            }
            for (Constructor<?> k : c.getDeclaredConstructors()) {
                due(k.getParameterCount() <= 7, k + " takes at most seven");
            }
        }
        due(WhichSwitch.class.getDeclaredConstructors().length == 1, "one constructor");
    }

    private static void words() throws Exception {
        String source = Files.readString(Path.of("src/main/java/WhichSwitch.java"));
        for (char c : source.toCharArray()) {
            due(c < 128, "the source's signs are below 128, not " + (int) c);
        }
        String code = source.replaceAll("(?s)/\\*.*?\\*/", "").replaceAll("//.*", "");
        for (String word : List.of("throw", "throws", "try", "catch", "synchronized", "assert", "import", "package",
                "double", "float", "static \\{", "equals", "hashCode", "toString", "Random", "Thread", "volatile",
                "transient", "native", "yield", "var", "Object", "Exact", "String\\[\\]")) {
            due(!Pattern.compile("\\b" + word + "\\b").matcher(code).find(), "no " + word);
        }
        due(!code.contains("->") && !code.contains("::"), "no lambda, no method reference");
        due(!code.contains("System.") || code.replace("System.arraycopy", "").indexOf("System.") < 0, "no other System");
        int length = 0;
        String name = "";
        for (String line : source.split("\n")) {
            if (line.matches("    (    )?(public|private)[^=;]*\\{") && line.contains("(")) {
                length = 0;
                name = line;
            }
            length++;
            due(length <= 60 || line.isBlank() || !line.startsWith("        "), "some sixty lines are enough for" + name);
            due(line.length() <= 120, "no line is longer than 120: " + line);
        }
    }

    /** A house of the largest kind, so that each call is at its dearest. */
    private static void dearCalls() {
        WhichSwitch x = new WhichSwitch();
        for (int f = 0; f < 6; f++) {
            x.fuse(50, 3 + f);
        }
        for (int l = 0; l < 10; l++) {
            x.lamp(l % 6, 1 + 9 * l, 100 * (l % 2) + l % 8 * 10 + l % 7, l % 3);
        }
        x.sheet(0, 2, 10);
        for (int h = 0; h < 12; h++) {
            for (int l = 0; l < 10; l++) {
                x.cell(0, l, (h * 5 + l * (1 + h % 3)) % 6);
            }
            x.house(0);
        }
        x.label(1, 0);
        x.set(1, 0x5A);
        for (int i = 0; i < 20; i++) {
            x.ahead(63, i % 2);
            x.plan(i % 12, 63, 6);
            x.next(63, 6, 0);
            x.thick(i % 12, i % 6);
            x.witness(300, 200);
            x.dead(i % 10);
            x.put(i % 2);
            x.which(i % 2, 100);
            x.order(i % 12, 0);
            x.wall(0, 0, 0);
            x.image();
            x.back();
            x.feed(0x676C6F7720313BL, 7);
            x.text();
        }
    }

    private static void allocation() {
        com.sun.management.ThreadMXBean threads =
                (com.sun.management.ThreadMXBean) ManagementFactory.getThreadMXBean();
        for (int i = 0; i < 20; i++) {
            dearCalls();
        }
        long before = threads.getThreadAllocatedBytes(Thread.currentThread().getId());
        dearCalls();
        long after = threads.getThreadAllocatedBytes(Thread.currentThread().getId());
        due(after - before < 60_000, "an object and its calls take " + (after - before) + " bytes");
    }

    public static void main(String[] args) throws Exception {
        face();
        words();
        allocation();
        System.out.println("face, rules and room: " + wrong + " wrong");
        if (wrong != 0) {
            System.exit(1);
        }
    }
}
