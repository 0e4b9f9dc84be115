import java.util.ArrayList;
import java.util.Arrays;
import java.util.List;
import java.util.Random;

/** Random runs of calls, each answer compared with that of a second, slow and plain model. */
public final class OracleTest {
    private static final String[] NAMES = {
        "feed", "end", "net", "fault", "count", "line", "between", "beside", "far", "ways", "amid",
        "theta", "tau", "first", "layer", "size", "corner", "at", "moved", "partFar", "alike",
        "symmetries", "allSymmetries", "orbit", "takes", "kind", "tell", "octet", "route", "moves",
        "fixers", "orbits", "shell", "pairs", "colours", "partColours", "trees", "width", "wiener",
        "centre", "even", "nearer", "quotient", "place", "sideFar", "cubic", "hull", "median",
        "medians", "without", "with", "loosest", "join", "cut", "times", "keep", "image", "back",
        "undo", "anew"};

    private static int wrong = 0;
    private static long calls = 0;
    private static long skipped = 0;

    public static void main(String[] args) {
        int runs = args.length > 0 ? Integer.parseInt(args[0]) : 600;
        long seed = args.length > 1 ? Long.parseLong(args[1]) : 20261117L;
        for (int r = 0; r < runs && wrong < 20; r++) {
            new Run(new Random(seed + r), r).go();
        }
        System.out.println(calls + " calls compared, " + skipped + " too dear for the model, " + wrong + " wrong");
        if (wrong != 0) {
            System.exit(1);
        }
    }

    /** One object and one model, fed the same calls. */
    private static final class Run {
        final Random random;
        final int number;
        final FactorNets x = new FactorNets();
        final Model model = new Model();
        final List<String> log = new ArrayList<>();
        int made = 0;

        Run(Random random, int number) {
            this.random = random;
            this.number = number;
        }

        void go() {
            // A text may take some 45 calls, and an object is used for 512 at most.
            while (made < 460 && wrong < 20) {
                if (random.nextInt(40) == 0 || made == 0) {
                    text();
                } else {
                    int m = 3 + random.nextInt(NAMES.length - 3);
                    boolean act = m >= 52;
                    if (!act || random.nextInt(3) == 0) {
                        call(NAMES[m], arguments(NAMES[m]));
                    }
                }
            }
        }

        void text() {
            String text = random.nextInt(4) == 0 ? spoiled(netText()) : netText();
            if (text.length() > 780) {
                text = text.substring(0, 780);
            }
            int had = (int) model.answer("count", 6);
            for (int i = 0; i < text.length(); i += 20) {
                long[] words = new long[5];
                for (int j = 0; j < 20 && i + j < text.length(); j++) {
                    words[j / 4] |= (long) (text.charAt(i + j) & 255) << 24 - 8 * (j % 4);
                }
                for (int j = 0; j < 5; j++) {
                    words[j] = (int) words[j];
                }
                call("feed", words);
            }
            call("end", had + text.length());
            call("net");
            call("fault", 0);
            call("fault", 1);
        }

        String netText() {
            StringBuilder b = new StringBuilder();
            int style = random.nextInt(6);
            if (style == 0) {
                int n = 1 + random.nextInt(random.nextInt(3) == 0 ? 20 : 8);
                b.append("net points ").append(n).append(";");
                double chance = random.nextDouble();
                for (int p = 1; p < n; p++) {
                    int tied = random.nextInt(p);
                    for (int q = 0; q < p; q++) {
                        if (q == tied || random.nextDouble() < chance * 0.7) {
                            b.append(random.nextBoolean() ? "line " + p + " " + q : "line" + q + " " + p).append(";");
                        }
                    }
                }
            } else {
                String[] words = {"row", "ring", "full"};
                int points = 1;
                int factors = 1 + random.nextInt(4);
                for (int f = 0; f < factors; f++) {
                    int kind = random.nextInt(3);
                    int least = kind == 1 ? 3 : 2;
                    int most = Math.min(20 / points, f == 0 && factors > 1 ? 5 : 20);
                    if (most >= least) {
                        int n = least + random.nextInt(most - least + 1);
                        points *= n;
                        b.append(words[kind]).append(' ').append(n).append(";");
                    }
                }
                for (int i = random.nextInt(3); i > 0 && style < 3; i--) {
                    b.append("line ").append(random.nextInt(points));
                    b.append(' ').append(random.nextInt(points)).append(";\n");
                }
            }
            return b.toString();
        }

        String spoiled(String text) {
            StringBuilder b = new StringBuilder(text);
            String signs = " ;0123459rowingfuletps\n\t\r\u00e9\u0000A";
            for (int i = 1 + random.nextInt(2); i > 0 && b.length() > 0; i--) {
                int at = random.nextInt(b.length());
                switch (random.nextInt(4)) {
                    case 0: b.deleteCharAt(at); break;
                    case 1: b.insert(at, signs.charAt(random.nextInt(signs.length()))); break;
                    case 2: b.setCharAt(at, signs.charAt(random.nextInt(signs.length()))); break;
                    default: b.setLength(at); break;
                }
            }
            return b.toString();
        }

        long[] arguments(String name) {
            int n = model.net == null ? 0 : model.net.length;
            int lines = model.net == null ? 0 : model.lines().size();
            switch (name) {
                case "fault": return new long[] {number(2)};
                case "count": return new long[] {number(8)};
                case "line": return new long[] {number(lines), number(4)};
                case "between": case "far": case "ways": case "amid": case "with": case "join":
                    return new long[] {number(n), number(n)};
                case "beside": case "orbit": case "fixers": return new long[] {number(n)};
                case "theta": case "tau": return new long[] {number(lines), number(lines)};
                case "first": case "size": case "symmetries": case "kind": case "partColours": case "keep":
                    return new long[] {number(4)};
                case "layer": case "at": return new long[] {number(n), number(3)};
                case "corner": return new long[] {number(3), number(5)};
                case "moved": return new long[] {number(n), number(3), number(n)};
                case "partFar": return new long[] {number(3), number(n), number(n)};
                case "alike": return new long[] {number(3), number(3)};
                case "takes": return new long[] {number(n), number(n), number(n), number(n)};
                case "octet": return new long[] {number(20)};
                case "route": return new long[] {number(n), number(n), number(8)};
                case "moves": return new long[] {someMove(), number(n)};
                case "shell": return new long[] {number(n), number(5)};
                case "pairs": return new long[] {number(6)};
                case "nearer": return new long[] {number(lines), number(3)};
                case "quotient": return new long[] {number(6)};
                case "place": return new long[] {number(n), number(6)};
                case "sideFar": return new long[] {number(6), number(n), number(n)};
                case "hull": return new long[] {someSet(n)};
                case "median": return new long[] {number(n), number(n), number(n)};
                case "without": case "cut": return new long[] {number(lines)};
                case "times": return new long[] {number(3), number(6)};
                case "image": case "back": return new long[] {number(3)};
                default: return new long[0];
            }
        }

        // Now and then a number just beyond, or far beyond, what there is.
        long number(int below) {
            switch (random.nextInt(30)) {
                case 0: return -1;
                case 1: return below;
                case 2: return random.nextInt();
                default: return below > 0 ? random.nextInt(below) : 0;
            }
        }

        long someMove() {
            long all = model.net == null ? 0 : model.answer("allSymmetries");
            if (all == Model.UNKNOWN || all < 1) {
                return number(5);
            }
            switch (random.nextInt(8)) {
                case 0: return all;
                case 1: return all - 1;
                default: return Math.floorMod(random.nextLong(), all);
            }
        }

        long someSet(int n) {
            if (n == 0 || random.nextInt(20) == 0) {
                return random.nextInt();
            }
            int set = random.nextInt() & (1 << n) - 1;
            return random.nextBoolean() ? set : set & random.nextInt() & random.nextInt();
        }

        void call(String name, long... a) {
            made++;
            long want = model.answer(name, a);
            long got = Calls.make(x, name, a);
            log.add(name + Arrays.toString(a) + " = " + got);
            if (want == Model.UNKNOWN) {
                skipped++;
                return;
            }
            calls++;
            if (got != want) {
                wrong++;
                System.out.println("run " + number + ": " + name + Arrays.toString(a) + " answered " + got
                    + ", due is " + want + " behind " + log.subList(Math.max(0, log.size() - 12), log.size())
                    + " net " + model.describe());
            }
        }
    }
}
