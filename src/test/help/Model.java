import java.math.BigInteger;
import java.util.ArrayList;
import java.util.Arrays;
import java.util.List;
import java.util.regex.Matcher;
import java.util.regex.Pattern;

/** The document, as plainly as it can be written down, over tables of booleans. */
final class Model {
    /** What cannot be told, as it would take too long. */
    static final long UNKNOWN = Long.MIN_VALUE + 7;

    boolean[][] net;
    List<boolean[][]> acts = new ArrayList<>();
    final boolean[][][] imageNets = new boolean[3][][];
    final List<List<boolean[][]>> imageActs = new ArrayList<>(Arrays.asList(null, null, null));
    StringBuilder tape = new StringBuilder();
    String out = "";
    int textLines;
    final int[] imageTextLines = new int[3];
    int fault;
    int place = -1;
    private boolean[][] movesOf;
    private List<int[]> movesFound;

    String describe() {
        if (net == null) {
            return "none";
        }
        StringBuilder b = new StringBuilder("net points " + net.length + ";");
        for (int[] l : lines()) {
            b.append("line ").append(l[0]).append(' ').append(l[1]).append(';');
        }
        return b.toString();
    }

    // ---- Plain net functions ----

    static boolean[][] copy(boolean[][] g) {
        boolean[][] c = new boolean[g.length][];
        for (int i = 0; i < g.length; i++) {
            c[i] = g[i].clone();
        }
        return c;
    }

    static List<int[]> linesOf(boolean[][] g) {
        List<int[]> all = new ArrayList<>();
        for (int i = 0; i < g.length; i++) {
            for (int j = i + 1; j < g.length; j++) {
                if (g[i][j]) {
                    all.add(new int[] {i, j});
                }
            }
        }
        return all;
    }

    List<int[]> lines() {
        return linesOf(net);
    }

    static int[][] distances(boolean[][] g) {
        int n = g.length;
        int[][] d = new int[n][n];
        for (int i = 0; i < n; i++) {
            for (int j = 0; j < n; j++) {
                d[i][j] = i == j ? 0 : g[i][j] ? 1 : 1000;
            }
        }
        for (int k = 0; k < n; k++) {
            for (int i = 0; i < n; i++) {
                for (int j = 0; j < n; j++) {
                    d[i][j] = Math.min(d[i][j], d[i][k] + d[k][j]);
                }
            }
        }
        return d;
    }

    static boolean connected(boolean[][] g) {
        for (int far : distances(g)[0]) {
            if (far >= 1000) {
                return false;
            }
        }
        return true;
    }

    static boolean over(int[][] d, int[] e, int[] f) {
        return d[e[0]][f[0]] + d[e[1]][f[1]] != d[e[0]][f[1]] + d[e[1]][f[0]];
    }

    static boolean fork(boolean[][] g, int[] e, int[] f) {
        for (int i = 0; i < 2; i++) {
            for (int j = 0; j < 2; j++) {
                if (e[i] == f[j] && e[1 - i] != f[1 - j]) {
                    int common = 0;
                    for (int p = 0; p < g.length; p++) {
                        common += g[p][e[1 - i]] && g[p][f[1 - j]] ? 1 : 0;
                    }
                    return common == 1;
                }
            }
        }
        return false;
    }

    static int[] sort(boolean[][] g, boolean forksToo) {
        List<int[]> all = linesOf(g);
        int[][] d = distances(g);
        int[] label = new int[all.size()];
        Arrays.fill(label, -1);
        int next = 0;
        for (int l = 0; l < label.length; l++) {
            if (label[l] < 0) {
                List<Integer> open = new ArrayList<>(List.of(l));
                label[l] = next;
                while (!open.isEmpty()) {
                    int e = open.remove(open.size() - 1);
                    for (int f = 0; f < label.length; f++) {
                        boolean tied = over(d, all.get(e), all.get(f))
                            || forksToo && fork(g, all.get(e), all.get(f));
                        if (label[f] < 0 && tied) {
                            label[f] = next;
                            open.add(f);
                        }
                    }
                }
                next++;
            }
        }
        return label;
    }

    static int kinds(int[] labels) {
        return Arrays.stream(labels).max().orElse(-1) + 1;
    }

    /** The net with just those lines whose label is k, or is not k. */
    static boolean[][] only(boolean[][] g, int[] labels, int k, boolean those) {
        boolean[][] r = new boolean[g.length][g.length];
        List<int[]> all = linesOf(g);
        for (int l = 0; l < labels.length; l++) {
            if (labels[l] == k == those) {
                r[all.get(l)[0]][all.get(l)[1]] = true;
                r[all.get(l)[1]][all.get(l)[0]] = true;
            }
        }
        return r;
    }

    static List<Integer> piece(boolean[][] g, int from) {
        int[] d = distances(g)[from];
        List<Integer> found = new ArrayList<>();
        for (int p = 0; p < g.length; p++) {
            if (d[p] < 1000) {
                found.add(p);
            }
        }
        return found;
    }

    static boolean[][] induced(boolean[][] g, List<Integer> points) {
        boolean[][] r = new boolean[points.size()][points.size()];
        for (int i = 0; i < r.length; i++) {
            for (int j = 0; j < r.length; j++) {
                r[i][j] = g[points.get(i)][points.get(j)];
            }
        }
        return r;
    }

    static boolean[][] simple(int kind, int n) {
        boolean[][] g = new boolean[n][n];
        for (int i = 0; i < n; i++) {
            for (int j = 0; j < n; j++) {
                boolean next = Math.abs(i - j) == 1;
                g[i][j] = i != j && (kind == 2 || next || kind == 1 && Math.abs(i - j) == n - 1);
            }
        }
        return g;
    }

    static boolean[][] product(boolean[][] g, boolean[][] h) {
        int p = g.length;
        boolean[][] r = new boolean[p * h.length][p * h.length];
        for (int i = 0; i < r.length; i++) {
            for (int j = 0; j < r.length; j++) {
                r[i][j] = i / p == j / p && g[i % p][j % p] || i % p == j % p && h[i / p][j / p];
            }
        }
        return r;
    }

    /** All symmetries in their order, or null if they are too many to list. */
    static List<int[]> moves(boolean[][] g, boolean[][] h) {
        List<int[]> found = new ArrayList<>();
        long[] budget = {400000};
        place(g, h, new int[g.length], 0, found, budget);
        return budget[0] < 0 || found.size() > 3000 ? null : found;
    }

    private static void place(boolean[][] g, boolean[][] h, int[] to, int i, List<int[]> found, long[] budget) {
        if (budget[0]-- < 0 || found.size() > 3000) {
            return;
        }
        if (i == g.length) {
            found.add(to.clone());
            return;
        }
        for (int c = 0; c < h.length; c++) {
            boolean fits = true;
            for (int p = 0; p < i && fits; p++) {
                fits = to[p] != c && g[p][i] == h[to[p]][c];
            }
            if (fits) {
                to[i] = c;
                place(g, h, to, i + 1, found, budget);
            }
        }
    }

    List<int[]> allMoves() {
        if (movesOf == null || !Arrays.deepEquals(movesOf, net)) {
            movesOf = copy(net);
            movesFound = moves(net, net);
        }
        return movesFound;
    }

    static int colours(boolean[][] g) {
        int k = 1;
        while (!paint(g, new int[g.length], 0, 0, k)) {
            k++;
        }
        return k;
    }

    private static boolean paint(boolean[][] g, int[] colour, int i, int used, int k) {
        if (i == g.length) {
            return true;
        }
        for (int c = 1; c <= Math.min(k, used + 1); c++) {
            boolean fits = true;
            for (int p = 0; p < i && fits; p++) {
                fits = !g[p][i] || colour[p] != c;
            }
            if (fits) {
                colour[i] = c;
                if (paint(g, colour, i + 1, Math.max(used, c), k)) {
                    return true;
                }
            }
        }
        return false;
    }

    static BigInteger trees(boolean[][] g) {
        int m = g.length - 1;
        BigInteger[][] a = new BigInteger[m][m];
        for (int i = 0; i < m; i++) {
            int degree = 0;
            for (int j = 0; j <= m; j++) {
                degree += g[i][j] ? 1 : 0;
            }
            for (int j = 0; j < m; j++) {
                a[i][j] = BigInteger.valueOf(i == j ? degree : g[i][j] ? -1 : 0);
            }
        }
        // Bareiss; the leading minors of a connected net's reduced Laplacian are all above 0.
        BigInteger last = BigInteger.ONE;
        for (int k = 0; k < m - 1; k++) {
            for (int i = k + 1; i < m; i++) {
                for (int j = k + 1; j < m; j++) {
                    a[i][j] = a[i][j].multiply(a[k][k]).subtract(a[i][k].multiply(a[k][j])).divide(last);
                }
            }
            last = a[k][k];
        }
        return m == 0 ? BigInteger.ONE : a[m - 1][m - 1];
    }

    static long bits(List<Integer> points) {
        long set = 0;
        for (int p : points) {
            set |= 1L << p;
        }
        return set;
    }

    static int shape(boolean[][] g) {
        int n = g.length;
        for (int kind = 0; kind < 3; kind++) {
            boolean fits = kind == 0 || kind == 1 && n >= 4 || kind == 2 && n >= 3;
            if (fits && linesOf(g).size() == linesOf(simple(kind, n)).size()) {
                int ones = 0;
                int most = 0;
                for (boolean[] row : g) {
                    int degree = 0;
                    for (boolean b : row) {
                        degree += b ? 1 : 0;
                    }
                    ones += degree == 1 ? 1 : 0;
                    most = Math.max(most, degree);
                }
                if (kind == 2 || most <= 2 && ones == (kind == 0 ? 2 : 0)) {
                    return kind;
                }
            }
        }
        return 3;
    }

    // ---- The text ----

    long read() {
        String text = tape.toString();
        tape = new StringBuilder();
        fault = 0;
        place = -1;
        List<String> tokens = new ArrayList<>();
        List<Integer> places = new ArrayList<>();
        Matcher m = Pattern.compile("[ \n]+|[a-z]+|[0-9]+|(?s:.)").matcher(text);
        while (m.find()) {
            if (!m.group().matches("[ \n]+")) {
                tokens.add(m.group());
                places.add(m.start());
            }
        }
        tokens.add("");
        places.add(text.length());
        boolean[][] g = null;
        int statements = 0;
        int i = 0;
        while (!tokens.get(i).isEmpty()) {
            String word = tokens.get(i);
            int kind = List.of("row", "ring", "full").indexOf(word);
            if (kind >= 0) {
                BigInteger n = number(tokens.get(++i));
                int old = g == null ? 1 : g.length;
                if (n == null) {
                    return fail(1, places.get(i));
                } else if (outside(n, kind == 1 ? 3 : 2, 20)) {
                    return fail(2, places.get(i));
                } else if (n.intValue() * old > 20) {
                    return fail(3, places.get(i));
                }
                g = product(g == null ? new boolean[1][1] : g, simple(kind, n.intValue()));
            } else if (word.equals("net") && statements == 0) {
                if (!tokens.get(++i).equals("points")) {
                    return fail(1, places.get(i));
                }
                BigInteger n = number(tokens.get(++i));
                if (n == null || outside(n, 1, 20)) {
                    return fail(n == null ? 1 : 2, places.get(i));
                }
                g = new boolean[n.intValue()][n.intValue()];
            } else if (word.equals("line") && statements > 0) {
                BigInteger a = number(tokens.get(++i));
                if (a == null || outside(a, 0, g.length - 1)) {
                    return fail(a == null ? 1 : 2, places.get(i));
                }
                BigInteger b = number(tokens.get(++i));
                if (b == null || outside(b, 0, g.length - 1)) {
                    return fail(b == null ? 1 : 2, places.get(i));
                }
                if (a.equals(b) || g[a.intValue()][b.intValue()]) {
                    return fail(2, places.get(i));
                }
                g[a.intValue()][b.intValue()] = true;
                g[b.intValue()][a.intValue()] = true;
            } else {
                return fail(1, places.get(i));
            }
            if (!tokens.get(++i).equals(";")) {
                return fail(1, places.get(i));
            }
            i++;
            statements++;
        }
        if (g != null && !connected(g)) {
            return -5;
        }
        net = g;
        acts = new ArrayList<>();
        textLines = statements;
        return g == null ? 0 : g.length;
    }

    private static BigInteger number(String token) {
        return token.matches("[0-9]+") ? new BigInteger(token) : null;
    }

    private static boolean outside(BigInteger n, int low, int high) {
        return n.compareTo(BigInteger.valueOf(low)) < 0 || n.compareTo(BigInteger.valueOf(high)) > 0;
    }

    private long fail(int number, int where) {
        fault = number;
        place = where;
        return -4;
    }

    // ---- The answers ----

    boolean is(long point) {
        return net != null && point >= 0 && point < net.length;
    }

    boolean isLine(long line) {
        return net != null && line >= 0 && line < lines().size();
    }

    boolean isPart(long part) {
        return net != null && part >= 0 && part < kinds(sort(net, true));
    }

    boolean isSide(long side) {
        return net != null && side >= 0 && side < kinds(sort(net, false));
    }

    List<Integer> corners(int part) {
        return piece(only(net, sort(net, true), part, true), 0);
    }

    boolean[][] partNet(int part) {
        return induced(only(net, sort(net, true), part, true), corners(part));
    }

    int coordinate(int point, int part) {
        List<Integer> corners = corners(part);
        int found = -1;
        for (int p : piece(only(net, sort(net, true), part, false), point)) {
            if (corners.contains(p)) {
                found = found == -1 ? corners.indexOf(p) : 1000;
            }
        }
        return found;
    }

    long amid(int a, int b) {
        int[][] d = distances(net);
        long set = 0;
        for (int p = 0; p < net.length; p++) {
            set |= d[a][p] + d[p][b] == d[a][b] ? 1L << p : 0;
        }
        return set;
    }

    long ways(int[][] d, int a, int b) {
        if (a == b) {
            return 1;
        }
        long sum = 0;
        for (int p = 0; p < net.length; p++) {
            sum += net[a][p] && d[p][b] == d[a][b] - 1 ? ways(d, p, b) : 0;
        }
        return sum;
    }

    long answer(String name, long... v) {
        int[] a = new int[5];
        for (int i = 0; i < v.length; i++) {
            a[i] = (int) v[i];
        }
        switch (name) {
            case "feed":
                if (tape.length() + 20 > 800) {
                    return -1;
                }
                for (int i = 0; i < 20; i++) {
                    tape.append((char) (a[i / 4] >>> 24 - 8 * (i % 4) & 255));
                }
                return tape.length();
            case "end":
                if (a[0] < 0 || a[0] > tape.length()) {
                    return -1;
                }
                tape.setLength(a[0]);
                return a[0];
            case "net": return read();
            case "fault": return a[0] == 0 ? fault : a[0] == 1 ? place : -1;
            case "count": return count(a[0]);
            case "octet": return a[0] >= 0 && a[0] < out.length() ? out.charAt(a[0]) : -1;
            case "back": return back(a[0]);
            default: return net == null ? -2 : asked(name, v, a);
        }
    }

    long count(int what) {
        switch (what) {
            case 0: return net == null ? 0 : net.length;
            case 1: return net == null ? 0 : lines().size();
            case 2: return textLines;
            case 3: return net == null ? 0 : kinds(sort(net, true));
            case 4: return net == null ? 0 : kinds(sort(net, false));
            case 5: return acts.size();
            case 6: return tape.length();
            case 7: return out.length();
            default: return -1;
        }
    }

    long asked(String name, long[] v, int[] a) {
        switch (name) {
            case "line": case "theta": case "tau": case "nearer": case "without": case "cut":
                return isLine(a[0]) ? askedLine(name, a) : -2;
            case "size": case "corner": case "alike": case "symmetries": case "kind": case "partColours":
            case "keep": case "partFar":
                return isPart(a[0]) ? askedPart(name, a) : -2;
            case "layer": case "at": case "moved":
                return is(a[0]) && isPart(a[1]) ? askedPlace(name, a) : -2;
            case "quotient": case "place": case "sideFar": return askedSide(name, a);
            case "between": case "far": case "ways": case "amid": case "with": case "join": case "route":
                return is(a[0]) && is(a[1]) ? askedPair(name, a) : -2;
            case "allSymmetries": case "orbit": case "takes": case "moves": case "fixers": case "orbits":
                return askedMoves(name, v, a);
            case "image": case "undo": case "anew": case "times": return act(name, a);
            default: return askedNet(name, a);
        }
    }

    long askedLine(String name, int[] a) {
        List<int[]> all = lines();
        int[] e = all.get(a[0]);
        int[][] d = distances(net);
        switch (name) {
            case "line":
                return a[1] == 0 || a[1] == 1 ? e[a[1]]
                    : a[1] == 2 || a[1] == 3 ? sort(net, a[1] == 2)[a[0]] : -2;
            case "theta": return !isLine(a[1]) ? -2 : over(d, e, all.get(a[1])) ? 1 : 0;
            case "tau": return !isLine(a[1]) ? -2 : fork(net, e, all.get(a[1])) ? 1 : 0;
            case "nearer": {
                if (a[1] < 0 || a[1] > 2) {
                    return -2;
                }
                long set = 0;
                for (int p = 0; p < net.length; p++) {
                    int which = d[p][e[0]] < d[p][e[1]] ? 0 : d[p][e[0]] > d[p][e[1]] ? 1 : 2;
                    set |= which == a[1] ? 1L << p : 0;
                }
                return set;
            }
            case "without": return without(e);
            default: {
                if (without(e) == -1 || acts.size() == 20) {
                    return -5;
                }
                acts.add(copy(net));
                net[e[0]][e[1]] = false;
                net[e[1]][e[0]] = false;
                return lines().size();
            }
        }
    }

    long without(int[] e) {
        boolean[][] g = copy(net);
        g[e[0]][e[1]] = false;
        g[e[1]][e[0]] = false;
        return connected(g) ? kinds(sort(g, true)) : -1;
    }

    long askedPart(String name, int[] a) {
        boolean[][] g = partNet(a[0]);
        switch (name) {
            case "size": return g.length;
            case "corner": return a[1] < 0 ? -2 : a[1] < g.length ? corners(a[0]).get(a[1]) : -1;
            case "alike": {
                if (!isPart(a[1])) {
                    return -2;
                }
                boolean[][] h = partNet(a[1]);
                if (g.length != h.length) {
                    return 0;
                }
                return a[0] == a[1] || !moves(g, h).isEmpty() ? 1 : 0;
            }
            case "symmetries": {
                List<int[]> found = moves(g, g);
                return found == null ? UNKNOWN : found.size();
            }
            case "kind": return shape(g);
            case "partColours": return colours(g);
            case "partFar":
                return is(a[1]) && is(a[2])
                    ? distances(g)[coordinate(a[1], a[0])][coordinate(a[2], a[0])] : -2;
            default: {
                if (acts.size() == 20) {
                    return -5;
                }
                acts.add(copy(net));
                net = g;
                return g.length;
            }
        }
    }

    long askedPlace(String name, int[] a) {
        switch (name) {
            case "layer": return bits(piece(only(net, sort(net, true), a[1], true), a[0]));
            case "at": return coordinate(a[0], a[1]);
            default: {
                if (!is(a[2])) {
                    return -2;
                }
                int found = -3;
                int parts = kinds(sort(net, true));
                for (int p = 0; p < net.length; p++) {
                    boolean fits = true;
                    for (int k = 0; k < parts && fits; k++) {
                        fits = coordinate(p, k) == coordinate(k == a[1] ? a[2] : a[0], k);
                    }
                    if (fits) {
                        found = found == -3 ? p : -4;
                    }
                }
                return found;
            }
        }
    }

    long askedSide(String name, int[] a) {
        int side = name.equals("place") ? a[1] : a[0];
        if (!isSide(side)) {
            return -2;
        }
        int[] labels = sort(net, false);
        boolean[][] left = only(net, labels, side, false);
        int[] piece = new int[net.length];
        Arrays.fill(piece, -1);
        int count = 0;
        for (int p = 0; p < net.length; p++) {
            if (piece[p] < 0) {
                for (int q : piece(left, p)) {
                    piece[q] = count;
                }
                count++;
            }
        }
        if (name.equals("quotient")) {
            return count;
        }
        if (name.equals("place")) {
            return is(a[0]) ? piece[a[0]] : -2;
        }
        if (!is(a[1]) || !is(a[2])) {
            return -2;
        }
        boolean[][] g = new boolean[count][count];
        for (int l = 0; l < labels.length; l++) {
            if (labels[l] == side) {
                int[] e = lines().get(l);
                g[piece[e[0]]][piece[e[1]]] = true;
                g[piece[e[1]]][piece[e[0]]] = true;
            }
        }
        return distances(g)[piece[a[1]]][piece[a[2]]];
    }

    long askedPair(String name, int[] a) {
        int[][] d = distances(net);
        boolean one = a[0] == a[1] || net[a[0]][a[1]];
        switch (name) {
            case "between": {
                for (int l = 0; l < lines().size(); l++) {
                    int[] e = lines().get(l);
                    if (e[0] == Math.min(a[0], a[1]) && e[1] == Math.max(a[0], a[1])) {
                        return l;
                    }
                }
                return -1;
            }
            case "far": return d[a[0]][a[1]];
            case "ways": return ways(d, a[0], a[1]);
            case "amid": return amid(a[0], a[1]);
            case "with": {
                boolean[][] g = copy(net);
                g[a[0]][a[1]] = true;
                g[a[1]][a[0]] = true;
                return one ? -1 : kinds(sort(g, true));
            }
            case "join": {
                if (one || acts.size() == 20) {
                    return -5;
                }
                acts.add(copy(net));
                net[a[0]][a[1]] = true;
                net[a[1]][a[0]] = true;
                return lines().size();
            }
            default: return a[2] < 0 ? -2 : route(a[0], a[1], a[2]);
        }
    }

    long route(int from, int to, int i) {
        List<Integer> way = new ArrayList<>(List.of(from));
        int[] labels = sort(net, true);
        int here = from;
        for (int k = 0; k < kinds(labels); k++) {
            boolean[][] own = only(net, labels, k, true);
            int[][] d = distances(partNet(k));
            while (coordinate(here, k) != coordinate(to, k)) {
                int left = d[coordinate(here, k)][coordinate(to, k)];
                int next = 0;
                while (!own[here][next] || d[coordinate(next, k)][coordinate(to, k)] >= left) {
                    next++;
                }
                here = next;
                way.add(here);
            }
        }
        return i < way.size() ? way.get(i) : -1;
    }

    long askedMoves(String name, long[] v, int[] a) {
        boolean points = name.equals("orbit") || name.equals("fixers") ? is(a[0])
            : name.equals("takes") ? is(a[0]) && is(a[1]) && is(a[2]) && is(a[3])
            : !name.equals("moves") || is(a[1]) && v[0] >= 0;
        if (!points) {
            return -2;
        }
        List<int[]> all = allMoves();
        if (all == null) {
            return UNKNOWN;
        }
        switch (name) {
            case "allSymmetries": return all.size();
            case "orbit": return orbit(all, a[0]);
            case "takes": return all.stream().anyMatch(m -> m[a[0]] == a[1] && m[a[2]] == a[3]) ? 1 : 0;
            case "moves": return v[0] < all.size() ? all.get((int) v[0])[a[1]] : -1;
            case "fixers": return all.stream().filter(m -> m[a[0]] == a[0]).count();
            default: {
                List<Long> found = new ArrayList<>();
                for (int p = 0; p < net.length; p++) {
                    if (!found.contains(orbit(all, p))) {
                        found.add(orbit(all, p));
                    }
                }
                return found.size();
            }
        }
    }

    static long orbit(List<int[]> all, int point) {
        long set = 0;
        for (int[] m : all) {
            set |= 1L << m[point];
        }
        return set;
    }

    long askedNet(String name, int[] a) {
        int[][] d = distances(net);
        int n = net.length;
        switch (name) {
            case "beside": {
                long set = 0;
                for (int p = 0; p < n && is(a[0]); p++) {
                    set |= net[a[0]][p] ? 1L << p : 0;
                }
                return is(a[0]) ? set : -2;
            }
            case "first": {
                int[] labels = sort(net, true);
                for (int l = 0; l < labels.length; l++) {
                    if (labels[l] == a[0]) {
                        return l;
                    }
                }
                return a[0] < 0 ? -2 : -1;
            }
            case "tell": {
                StringBuilder b = new StringBuilder();
                for (int k = 0; k < kinds(sort(net, true)); k++) {
                    boolean[][] g = partNet(k);
                    int kind = shape(g);
                    b.append(k > 0 ? " " : "").append(new String[] {"row", "ring", "full", "net"}[kind]);
                    b.append(' ').append(g.length).append(kind == 3 ? " " + linesOf(g).size() : "");
                }
                out = b.length() == 0 ? "one" : b.toString();
                return out.length();
            }
            case "shell": {
                long set = 0;
                for (int p = 0; p < n && is(a[0]); p++) {
                    set |= d[a[0]][p] == a[1] ? 1L << p : 0;
                }
                return is(a[0]) && a[1] >= 0 ? set : -2;
            }
            case "colours": return colours(net);
            case "trees": return trees(net).mod(BigInteger.valueOf(1000003)).longValue();
            case "width": return Arrays.stream(d).flatMapToInt(Arrays::stream).max().getAsInt();
            case "wiener": return Arrays.stream(d).flatMapToInt(Arrays::stream).sum() / 2;
            case "pairs": {
                int found = 0;
                for (int p = 0; p < n; p++) {
                    for (int q = 0; q < p; q++) {
                        found += d[p][q] == a[0] ? 1 : 0;
                    }
                }
                return a[0] < 0 ? -2 : found;
            }
            case "centre": {
                int least = Arrays.stream(d).mapToInt(r -> Arrays.stream(r).max().getAsInt()).min().getAsInt();
                long set = 0;
                for (int p = 0; p < n; p++) {
                    set |= Arrays.stream(d[p]).max().getAsInt() == least ? 1L << p : 0;
                }
                return set;
            }
            case "even": return colours(net) <= 2 ? 1 : 0;
            case "cubic": {
                boolean all = colours(net) <= 2;
                for (int s = 0; s < kinds(sort(net, false)); s++) {
                    all &= askedSide("quotient", new int[] {s}) == 2;
                }
                return all ? 1 : 0;
            }
            case "hull": return hull(a[0]);
            case "median":
                return is(a[0]) && is(a[1]) && is(a[2])
                    ? amid(a[0], a[1]) & amid(a[1], a[2]) & amid(a[0], a[2]) : -2;
            case "medians": return medians(d) ? 1 : 0;
            case "loosest": {
                long most = -1;
                long found = -1;
                for (int l = 0; l < lines().size(); l++) {
                    long parts = without(lines().get(l));
                    if (parts > most) {
                        most = parts;
                        found = l;
                    }
                }
                return found;
            }
            default: throw new IllegalStateException(name);
        }
    }

    long hull(int set) {
        if (set == 0 || (set & -(1 << net.length)) != 0) {
            return -2;
        }
        long all = set;
        boolean grew = true;
        while (grew) {
            long before = all;
            for (int p = 0; p < net.length; p++) {
                for (int q = 0; q < net.length; q++) {
                    if ((all >> p & 1) == 1 && (all >> q & 1) == 1) {
                        all |= amid(p, q);
                    }
                }
            }
            grew = all != before;
        }
        return all;
    }

    boolean medians(int[][] d) {
        int n = net.length;
        for (int a = 0; a < n; a++) {
            for (int b = 0; b < n; b++) {
                for (int c = 0; c < n; c++) {
                    int found = 0;
                    for (int p = 0; p < n; p++) {
                        boolean mid = d[a][p] + d[p][b] == d[a][b] && d[b][p] + d[p][c] == d[b][c]
                            && d[a][p] + d[p][c] == d[a][c];
                        found += mid ? 1 : 0;
                    }
                    if (found != 1) {
                        return false;
                    }
                }
            }
        }
        return true;
    }

    long act(String name, int[] a) {
        switch (name) {
            case "times": {
                if (a[0] < 0 || a[0] > 2 || a[1] < (a[0] == 1 ? 3 : 2) || a[1] > 10) {
                    return -2;
                }
                if (net.length * a[1] > 20 || acts.size() == 20) {
                    return -5;
                }
                acts.add(net);
                net = product(net, simple(a[0], a[1]));
                return net.length;
            }
            case "image": {
                if (a[0] < 0 || a[0] > 2) {
                    return -2;
                }
                imageNets[a[0]] = copy(net);
                imageActs.set(a[0], copies(acts));
                imageTextLines[a[0]] = textLines;
                return 0;
            }
            case "undo": {
                if (acts.isEmpty()) {
                    return -5;
                }
                net = acts.remove(acts.size() - 1);
                return acts.size();
            }
            default: {
                int were = acts.size();
                if (were > 0) {
                    net = acts.get(0);
                }
                acts.clear();
                return were;
            }
        }
    }

    static List<boolean[][]> copies(List<boolean[][]> all) {
        List<boolean[][]> made = new ArrayList<>();
        for (boolean[][] g : all) {
            made.add(copy(g));
        }
        return made;
    }

    long back(int k) {
        if (k < 0 || k > 2) {
            return -2;
        }
        if (imageNets[k] == null) {
            return -6;
        }
        net = copy(imageNets[k]);
        acts = copies(imageActs.get(k));
        textLines = imageTextLines[k];
        return 0;
    }
}
