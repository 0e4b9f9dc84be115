import java.io.File;
import java.io.IOException;
import java.lang.reflect.Method;
import java.nio.file.Files;
import java.nio.file.Path;
import java.util.ArrayList;
import java.util.List;
import java.util.Set;
import java.util.TreeSet;
import java.util.regex.Matcher;
import java.util.regex.Pattern;

/** README.md: each call in it answers what stands behind it, and what it names is there. */
public final class ReadmeTest {
    private static final Pattern CALL = Pattern.compile("x\\.(\\w+)\\(([^)]*)\\); *// ((-?\\d+).*)");
    private static final Pattern QUOTED = Pattern.compile("\"([^\"]*)\"");
    private static final Pattern POINTS = Pattern.compile("-?\\d+: points? (\\d+(?:, \\d+)*)\\b.*");
    private static FactorNets x;
    private static int calls;

    public static void main(String[] args) throws Exception {
        String page = Files.readString(Path.of("README.md"));
        Checks.about("README.md");
        examples(page);
        texts(page);
        names(page);
        commands(page);
        Checks.end();
    }

    private static List<String> blocks(String page, String kind) {
        List<String> found = new ArrayList<>();
        Matcher m = Pattern.compile("(?s)```" + kind + "\n(.*?)```").matcher(page);
        while (m.find()) {
            found.add(m.group(1));
        }
        return found;
    }

    private static void examples(String page) throws Exception {
        Set<String> called = new TreeSet<>();
        for (String block : blocks(page, "java")) {
            for (String line : block.split("\n")) {
                Matcher m = CALL.matcher(line);
                if (line.equals("FactorNets x = new FactorNets();")) {
                    x = new FactorNets();
                    calls = 0;
                } else if (x != null && m.matches()) {
                    called.add(m.group(1));
                    example(m.group(1), m.group(2), m.group(3), Long.parseLong(m.group(4)));
                } else {
                    Checks.fail("not to be understood: " + line);
                }
            }
        }
        Set<String> face = new TreeSet<>();
        for (Method method : FactorNets.class.getMethods()) {
            if (method.getDeclaringClass() == FactorNets.class) {
                face.add(method.getName());
            }
        }
        Checks.dueText("the calls in examples", called.toString(), face.toString());
        Checks.due("more than 512 calls of one object", calls > 512 ? 1 : 0, 0);
    }

    private static void example(String name, String numbers, String comment, long due) throws Exception {
        calls++;
        Method method = null;
        for (Method m : FactorNets.class.getMethods()) {
            method = m.getName().equals(name) ? m : method;
        }
        if (method == null) {
            Checks.fail("there is no call " + name);
            return;
        }
        Object[] values = values(numbers, method.getParameterTypes());
        Checks.due(name + "(" + numbers + ")", ((Number) method.invoke(x, values)).longValue(), due);
        Matcher points = POINTS.matcher(comment);
        if (points.matches()) {
            long set = 0;
            for (String point : points.group(1).split(", ")) {
                set |= 1L << Integer.parseInt(point);
            }
            Checks.due("the points of '" + comment + "'", set, due);
        }
        Matcher quoted = QUOTED.matcher(comment);
        if (quoted.find()) {
            String text = name.equals("feed") ? fed(values).replaceAll("\0+$", "") : Texts.out(x);
            Checks.dueText(name + "(" + numbers + ")", text, quoted.group(1));
        }
    }

    private static Object[] values(String numbers, Class<?>[] types) {
        String[] parts = numbers.isEmpty() ? new String[0] : numbers.split(", ");
        Object[] values = new Object[parts.length];
        for (int i = 0; i < parts.length; i++) {
            long value = Long.decode(parts[i]);
            if (types[i] == long.class) {
                values[i] = value;
            } else {
                values[i] = (int) value;
            }
        }
        return values;
    }

    private static String fed(Object[] values) {
        StringBuilder b = new StringBuilder();
        for (Object value : values) {
            for (int shift = 24; shift >= 0; shift -= 8) {
                b.append((char) ((Integer) value >> shift & 255));
            }
        }
        return b.toString();
    }

    private static void texts(String page) {
        Matcher row = Pattern.compile("\n\\| (?:`([^`]*)`)? *\\| (-?\\d+) +\\| (\\d) +\\| (-?\\d+) +\\|").matcher(page);
        int found = 0;
        while (row.find()) {
            found++;
            String text = row.group(1) == null ? "" : row.group(1);
            FactorNets y = new FactorNets();
            Checks.due("net() of '" + text + "'", Texts.told(y, text), Long.parseLong(row.group(2)));
            Checks.due("fault(0) of '" + text + "'", y.fault(0), Long.parseLong(row.group(3)));
            Checks.due("fault(1) of '" + text + "'", y.fault(1), Long.parseLong(row.group(4)));
        }
        Checks.due("texts in the table", found, 11);
    }

    private static void names(String page) {
        for (String directory : new String[] {"src/test/java", "src/test/help"}) {
            String[] files = new File(directory).list();
            Checks.due("tests under " + directory, files == null || files.length == 0 ? 0 : 1, 1);
            for (String file : files == null ? new String[0] : files) {
                String name = file.replace(".java", "");
                Checks.due("`" + name + "` is on the page", page.contains("`" + name + "`") ? 1 : 0, 1);
            }
        }
        Matcher name = Pattern.compile("`([A-Z]\\w+)`|`((?:\\.\\./|src/|\\.ci/)[^`]+)`").matcher(page);
        while (name.find()) {
            String file = name.group(1) == null ? name.group(2) : name.group(1) + ".java";
            boolean there = new File(file).exists() || new File("src/test/java/" + file).exists()
                || new File("src/test/help/" + file).exists();
            Checks.due(file + " is there", there ? 1 : 0, 1);
        }
    }

    // The first command runs this test too, so it is only looked for; the others are run.
    private static void commands(String page) throws IOException, InterruptedException {
        List<String> found = blocks(page, "sh");
        Checks.due("commands on the page", found.size(), 2);
        Checks.dueText("the first command", found.get(0), "bash .ci/run\n");
        Checks.due(".ci/run can be run", new File(".ci/run").canExecute() ? 1 : 0, 1);
        Path classes = Files.createTempDirectory("nets");
        String rest = found.get(1).replace("/tmp/nets", classes.toString());
        Process process = new ProcessBuilder("bash", "-ec", rest).redirectErrorStream(true).start();
        String said = new String(process.getInputStream().readAllBytes());
        Checks.due("'" + rest + "' ended with", process.waitFor(), 0);
        Checks.due("'" + said + "' tells of no wrong answer", said.endsWith(" 0 wrong\n") ? 1 : 0, 1);
        for (File file : classes.toFile().listFiles()) {
            file.delete();
        }
        classes.toFile().delete();
    }
}
