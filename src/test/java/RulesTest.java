import com.sun.management.ThreadMXBean;
import java.lang.management.ManagementFactory;
import java.lang.reflect.Constructor;
import java.lang.reflect.Field;
import java.lang.reflect.Method;
import java.lang.reflect.Modifier;
import java.nio.file.Files;
import java.nio.file.Path;
import java.util.ArrayList;
import java.util.HashSet;
import java.util.List;
import java.util.Map;
import java.util.Set;
import java.util.TreeMap;
import java.util.TreeSet;
import java.util.regex.Matcher;
import java.util.regex.Pattern;

/** What can be checked of LANGUAGE.md: the face, the words, the sizes, the compiled methods, the room. */
public final class RulesTest {
    private static int wrong = 0;

    private static void fail(String what) {
        wrong++;
        System.out.println(what);
    }

    public static void main(String[] args) throws Exception {
        String source = Files.readString(Path.of("src/main/java/FactorNets.java"));
        face(Files.readString(Path.of("../shared/DOC.md")));
        words(source);
        sizes(source);
        compiled();
        room();
        System.out.println(wrong == 0 ? "the rules are kept" : wrong + " rules are not kept");
        if (wrong != 0) {
            System.exit(1);
        }
    }

    private static String told(Method m) {
        StringBuilder b = new StringBuilder(m.getReturnType().getSimpleName() + " " + m.getName() + "(");
        for (Class<?> type : m.getParameterTypes()) {
            b.append(b.charAt(b.length() - 1) == '(' ? "" : ", ").append(type.getSimpleName());
        }
        return b.append(")").toString();
    }

    private static void face(String document) {
        Set<String> due = new TreeSet<>();
        Matcher m = Pattern.compile("    public (\\w+) (\\w+)\\(([^)]*)\\);").matcher(document);
        while (m.find()) {
            due.add(m.group(1) + " " + m.group(2) + "(" + m.group(3).replaceAll(" \\w+(,|$)", "$1") + ")");
        }
        Set<String> found = new TreeSet<>();
        Set<String> names = new HashSet<>();
        for (Method method : FactorNets.class.getDeclaredMethods()) {
            if (Modifier.isPublic(method.getModifiers())) {
                found.add(told(method));
                names.add(method.getName());
            } else if (!Modifier.isPrivate(method.getModifiers())) {
                fail("neither public nor private: " + method);
            }
        }
        if (due.size() != 60 || !due.equals(found)) {
            fail("the face is " + found + ", due is " + due);
        }
        int modifiers = FactorNets.class.getModifiers();
        if (!Modifier.isPublic(modifiers) || !Modifier.isFinal(modifiers) || FactorNets.NONE != -1) {
            fail("a public final class with NONE = -1 is due");
        }
        for (Field field : FactorNets.class.getDeclaredFields()) {
            boolean constant = field.getName().equals("NONE");
            boolean shown = Modifier.isPublic(field.getModifiers());
            if (constant != shown || !constant && !Modifier.isPrivate(field.getModifiers())) {
                fail("a field that should be otherwise: " + field);
            }
        }
        Constructor<?>[] constructors = FactorNets.class.getDeclaredConstructors();
        if (constructors.length != 1 || constructors[0].getParameterCount() != 0) {
            fail("one constructor without arguments is due");
        }
        List<Class<?>> all = new ArrayList<>(List.of(FactorNets.class.getDeclaredClasses()));
        if (all.size() > 12) {
            fail(all.size() + " classes inside");
        }
        all.add(FactorNets.class);
        for (Class<?> c : all) {
            inside(c, names);
        }
    }

    private static void inside(Class<?> c, Set<String> names) {
        if (c != FactorNets.class && (Modifier.isPublic(c.getModifiers()) || !Modifier.isStatic(c.getModifiers()))) {
            fail("not a static class of the file's own: " + c);
        }
        int fields = 0;
        for (Field field : c.getDeclaredFields()) {
            boolean isStatic = Modifier.isStatic(field.getModifiers());
            fields += isStatic ? 0 : 1;
            if (isStatic && !Modifier.isFinal(field.getModifiers())) {
                fail("static and not final: " + field);
            }
        }
        if (fields > 20) {
            fail(fields + " fields in " + c);
        }
        for (Method method : c.getDeclaredMethods()) {
            if (method.getParameterCount() > 7) {
                fail("too many parameters: " + method);
            }
            if (c != FactorNets.class && names.contains(method.getName())) {
                fail("bears the name of a public one: " + method);
            }
        }
    }

    private static String bare(String source) {
        return source.replaceAll("(?s)/\\*.*?\\*/", "").replaceAll("//[^\n]*", "").replaceAll("\"[^\"\n]*\"", "\"\"");
    }

    private static void words(String source) {
        String code = bare(source);
        String[] barred = {"throw", "throws", "try", "catch", "finally", "synchronized", "assert", "record", "var",
            "Object", "hashCode", "equals", "toString", "System\\.(?!arraycopy)\\w+", "Thread", "Exception",
            "\\w+Exact", "double", "float", "package", "protected", "volatile", "native", "Math\\.(?!min|max|abs)\\w+",
            "Integer\\.(?!bitCount)\\w+", "Arrays\\.(?!fill|copyOf)\\w+", "String\\.\\w+", "while"};
        for (String word : barred) {
            Matcher m = Pattern.compile("\\b" + word + "\\b").matcher(code);
            if (m.find()) {
                fail("the source has " + m.group());
            }
        }
        for (String sign : new String[] {"->", "::", "+ \"\"", "\"\" +", "@"}) {
            if (code.contains(sign)) {
                fail("the source has " + sign);
            }
        }
        Matcher imports = Pattern.compile("import ([^;]+);").matcher(code);
        while (imports.find()) {
            if (!imports.group(1).equals("java.util.Arrays")) {
                fail("imports " + imports.group(1));
            }
        }
        for (char c : source.toCharArray()) {
            if (c > 126 || c < 32 && c != '\n') {
                fail("a sign that is not plain: " + (int) c);
            }
        }
        Matcher loops = Pattern.compile("for \\(([^;]*);([^;]*);([^\n]*)\\) \\{").matcher(code);
        while (loops.find()) {
            if (!loops.group(2).contains("<") && !loops.group(2).contains(">=") && !loops.group(2).contains("> 0")) {
                fail("a loop without a bound: " + loops.group());
            }
        }
    }

    private static void sizes(String source) {
        int start = -1;
        String[] lines = source.split("\n");
        for (int i = 0; i < lines.length; i++) {
            if (lines[i].length() > 120) {
                fail("a long line: " + (i + 1));
            }
            if (lines[i].matches(" {4}( {4})?[\\w].*\\(.*\\) \\{")) {
                start = i;
            } else if (lines[i].matches(" {4}( {4})?\\}") && start >= 0) {
                if (i - start > 60) {
                    fail("a long method at line " + (start + 1));
                }
                start = -1;
            }
        }
    }

    private static final Set<String> LIBRARY = Set.of("java.lang.Object.<init>()V", "java.lang.Integer.bitCount(I)I",
        "java.lang.Math.max(II)I", "java.lang.Math.min(II)I", "java.lang.Math.max(JJ)J", "java.util.Arrays.fill([II)V",
        "java.util.Arrays.fill([JJ)V", "java.lang.String.length()I", "java.lang.String.charAt(I)C",
        "java.lang.System.arraycopy(Ljava/lang/Object;ILjava/lang/Object;II)V");
    private static final Set<Integer> MAKING = Set.of(ClassFile.NEW, ClassFile.NEW_ARRAY,
        ClassFile.NEW_ARRAY_OF_OBJECTS, ClassFile.NEW_ARRAY_OF_ARRAYS);
    private static final Set<Integer> BARRED = Set.of(ClassFile.THROW, ClassFile.CAST, ClassFile.LOCK,
        ClassFile.CALL_MADE_LATE);

    // Rules 4, 6, 8, 11 and 12, as the compiled methods keep them.
    private static void compiled() throws Exception {
        Map<String, ClassFile.Body> bodies = new TreeMap<>(ClassFile.of(FactorNets.class).bodies);
        for (Class<?> inside : FactorNets.class.getDeclaredClasses()) {
            bodies.putAll(ClassFile.of(inside).bodies);
        }
        for (String name : bodies.keySet()) {
            instructions(name, bodies.get(name));
            for (String called : bodies.get(name).calls) {
                if (!bodies.containsKey(called) && !LIBRARY.contains(called)) {
                    fail(name + " calls " + called);
                }
            }
            depth(name, bodies, new ArrayList<>());
        }
    }

    private static void instructions(String name, ClassFile.Body body) {
        if (body.handlers != 0) {
            fail(name + " catches");
        }
        for (int instruction : body.instructions) {
            if (BARRED.contains(instruction)) {
                fail(name + " has the instruction " + instruction);
            }
            if (MAKING.contains(instruction) && !name.contains(".<init>(")) {
                fail(name + " makes an object");
            }
        }
    }

    private static void depth(String name, Map<String, ClassFile.Body> bodies, List<String> open) {
        open.add(name);
        if (open.size() > 8) {
            fail("calls go too deep: " + open);
        }
        ClassFile.Body body = bodies.get(name);
        for (String called : body == null ? List.<String>of() : body.calls) {
            if (called.equals(name)) {
                if (!Modifier.isPrivate(body.flags) || !Modifier.isStatic(body.flags)) {
                    fail("calls itself, but is not private and static: " + name);
                }
            } else if (open.contains(called)) {
                fail("methods that call one another: " + open + " " + called);
            } else if (open.size() <= 8) {
                depth(called, bodies, open);
            }
        }
        open.remove(open.size() - 1);
    }

    // Nothing is made by a call: the rows of one object are all that a run takes.
    private static void room() {
        ThreadMXBean threads = (ThreadMXBean) ManagementFactory.getThreadMXBean();
        FactorNets warm = new FactorNets();
        everything(warm);
        long start = threads.getCurrentThreadAllocatedBytes();
        FactorNets x = new FactorNets();
        long made = threads.getCurrentThreadAllocatedBytes();
        everything(x);
        long end = threads.getCurrentThreadAllocatedBytes();
        if (made - start > 200000) {
            fail("an object takes " + (made - start) + " bytes");
        }
        if (end - made > 2000) {
            fail("calls take " + (end - made) + " bytes");
        }
    }

    private static long everything(FactorNets x) {
        long sum = 0;
        // "full 4;row 5;" and "row 20;line 0 19;"
        sum += x.feed(0x66756c6c, 0x20343b72, 0x6f772035, 0x3b000000, 0) + x.end(13) + x.net();
        sum += questions(x);
        sum += x.join(0, 19) + x.loosest() + questions(x) + x.undo();
        sum += x.image(0) + x.keep(0) + questions(x) + x.times(1, 5) + x.cut(0) + questions(x);
        sum += x.anew() + x.back(0) + x.back(1) + x.anew();
        sum += x.feed(0x726f7720, 0x32303b6c, 0x696e6520, 0x30203139, 0x3b000000) + x.end(17) + x.net();
        sum += questions(x);
        sum += x.feed(0x726f7720, 0x32303b6c, 0x696e6520, 0x30203230, 0x3b000000) + x.net() + x.fault(1);
        return sum;
    }

    private static long questions(FactorNets x) {
        long sum = x.count(3) + x.count(4) + x.line(0, 2) + x.between(0, 1) + x.beside(0) + x.far(0, 3);
        sum += x.ways(0, 3) + x.amid(0, 3) + x.theta(0, 1) + x.tau(0, 1) + x.first(0) + x.layer(0, 0) + x.size(0);
        sum += x.corner(0, 1) + x.at(3, 0) + x.moved(0, 0, 1) + x.partFar(0, 0, 1) + x.alike(0, 0) + x.symmetries(0);
        sum += x.allSymmetries() + x.orbit(0) + x.takes(0, 1, 1, 0) + x.kind(0) + x.tell() + x.octet(0);
        sum += x.route(0, 3, 1) + x.moves(1, 3) + x.fixers(0) + x.orbits() + x.shell(0, 1) + x.pairs(1);
        sum += x.colours() + x.partColours(0) + x.trees() + x.width() + x.wiener() + x.centre() + x.even();
        sum += x.nearer(0, 0) + x.quotient(0) + x.place(0, 0) + x.sideFar(0, 0, 1) + x.cubic() + x.hull(9);
        return sum + x.median(0, 1, 2) + x.medians() + x.without(0) + x.with(0, 2) + x.loosest();
    }
}
