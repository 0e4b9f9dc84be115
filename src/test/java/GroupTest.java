import java.util.ArrayList;
import java.util.List;
import java.util.Random;

/** Nets whose groups are too large to list: known orders, and answers that must fit together. */
public final class GroupTest {
    private static String shuffled(int n, List<int[]> lines, Random random) {
        List<Integer> to = new ArrayList<>();
        for (int p = 0; p < n; p++) {
            to.add(random.nextInt(to.size() + 1), p);
        }
        StringBuilder b = new StringBuilder("net points " + n + ";");
        for (int[] l : lines) {
            b.append("line").append(to.get(l[0])).append(' ').append(to.get(l[1])).append(';');
        }
        return b.toString();
    }

    private static void dueOrder(String name, int n, List<int[]> lines, long order) {
        Random random = new Random(n);
        for (int i = 0; i < 5; i++) {
            String text = shuffled(n, lines, random);
            Checks.due("allSymmetries() of " + name, Texts.of(text).allSymmetries(), order);
            fitsTogether(name, text, random);
        }
    }

    private static void fitsTogether(String name, String text, Random random) {
        FactorNets x = Texts.of(text);
        int n = x.count(0);
        long order = x.allSymmetries();
        int[][] far = distances(text, n);
        int orbits = 0;
        for (int p = 0; p < n; p++) {
            int orbit = x.orbit(p);
            Checks.due(name + ": fixers times orbit", x.fixers(p) * Integer.bitCount(orbit), order);
            orbits += Integer.numberOfTrailingZeros(orbit) == p ? 1 : 0;
            int q = random.nextInt(n);
            Checks.due(name + ": takes as orbit", x.takes(p, q, p, q), orbit >> q & 1);
        }
        Checks.due(name + ": orbits", x.orbits(), orbits);
        for (int i = 0; i < 10; i++) {
            long k = Math.floorMod(random.nextLong(), order);
            int[] one = symmetry(name, text, k, far);
            if (k + 1 < order) {
                Checks.due(name + ": in order", before(one, symmetry(name, text, k + 1, far)) ? 1 : 0, 1);
            }
            int p = random.nextInt(n);
            int q = random.nextInt(n);
            Checks.due(name + ": takes what it takes", x.takes(p, one[p], q, one[q]), 1);
        }
        Checks.due(name + ": none so late", x.moves(order, 0), -1);
        Checks.due(name + ": orders of parts", ordersOfParts(x), order);
    }

    // A new object each time: one is used for 512 calls at most.
    private static int[][] distances(String text, int n) {
        FactorNets x = Texts.of(text);
        int[][] far = new int[n][n];
        for (int p = 0; p < n; p++) {
            for (int q = 0; q < p; q++) {
                far[p][q] = x.far(p, q);
                far[q][p] = far[p][q];
            }
        }
        return far;
    }

    private static int[] symmetry(String name, String text, long k, int[][] far) {
        FactorNets x = Texts.of(text);
        int n = far.length;
        int[] to = new int[n];
        int seen = 0;
        for (int p = 0; p < n; p++) {
            to[p] = x.moves(k, p);
            seen |= 1 << to[p];
        }
        Checks.due(name + ": all places taken", seen, (1 << n) - 1);
        for (int p = 0; p < n; p++) {
            for (int q = 0; q < p; q++) {
                Checks.due(name + ": distance stays", far[to[p]][to[q]], far[p][q]);
            }
        }
        return to;
    }

    private static boolean before(int[] one, int[] two) {
        for (int p = 0; p < one.length; p++) {
            if (one[p] != two[p]) {
                return one[p] < two[p];
            }
        }
        return false;
    }

    // The symmetries of a product are those of its parts, and parts that are alike change places.
    private static long ordersOfParts(FactorNets x) {
        long order = 1;
        for (int k = 0; k < x.count(3); k++) {
            order *= x.symmetries(k);
            int same = 0;
            for (int j = 0; j <= k; j++) {
                same += x.alike(j, k);
            }
            order *= same;
        }
        return order;
    }

    private static void ring(List<int[]> lines, int from, int n) {
        for (int i = 0; i < n; i++) {
            lines.add(new int[] {from + i, from + (i + 1) % n});
        }
    }

    private static void fan(List<int[]> lines, int top) {
        for (int p = 0; p < top; p++) {
            lines.add(new int[] {top, p});
        }
    }

    public static void main(String[] args) {
        for (int k = 2; k <= 4; k++) {
            List<int[]> lines = new ArrayList<>();
            for (int i = 0; i < 10; i++) {
                lines.add(new int[] {i, (i + 1) % 10});
                lines.add(new int[] {i, 10 + i});
                lines.add(new int[] {10 + i, 10 + (i + k) % 10});
            }
            dueOrder("generalised Petersen 10 " + k, 20, lines, k == 2 ? 120 : k == 3 ? 240 : 20);
        }

        List<int[]> shrikhande = new ArrayList<>();
        int[][] steps = {{1, 0}, {0, 1}, {1, 1}};
        for (int p = 0; p < 16; p++) {
            for (int[] s : steps) {
                shrikhande.add(new int[] {p, (p / 4 + s[0]) % 4 * 4 + (p + s[1]) % 4});
            }
        }
        dueOrder("Shrikhande", 16, shrikhande, 192);

        List<int[]> paley = new ArrayList<>();
        for (int p = 0; p < 17; p++) {
            for (int s : new int[] {1, 2, 4, 8}) {
                paley.add(new int[] {p, (p + s) % 17});
            }
        }
        dueOrder("Paley 17", 17, paley, 136);

        List<int[]> fans = new ArrayList<>();
        ring(fans, 0, 3);
        ring(fans, 3, 4);
        ring(fans, 7, 5);
        ring(fans, 12, 7);
        fan(fans, 19);
        dueOrder("a fan over four rings", 20, fans, 6 * 8 * 10 * 14);

        List<int[]> cubics = new ArrayList<>();
        for (int p = 0; p < 3; p++) {
            for (int q = 3; q < 6; q++) {
                cubics.add(new int[] {p, q});
            }
            cubics.add(new int[] {6 + p, 9 + p});
        }
        ring(cubics, 6, 3);
        ring(cubics, 9, 3);
        ring(cubics, 12, 4);
        cubics.add(new int[] {12, 14});
        cubics.add(new int[] {13, 15});
        fan(cubics, 16);
        dueOrder("a fan over three cubic nets", 17, cubics, 72 * 12 * 24);

        List<int[]> star = new ArrayList<>();
        fan(star, 19);
        dueOrder("a star", 20, star, 121645100408832000L);

        String[] products = {"full 20;", "full 10;row 2;", "full 4;full 4;", "full 3;full 3;row 2;",
            "row 2;row 2;row 2;row 2;", "row 2;row 5;row 2;", "full 4;ring 5;", "full 6;full 3;",
            "net points 5;line 0 1;line 0 2;line 0 3;line 0 4;full 4;", "row 3;ring 6;"};
        for (String text : products) {
            fitsTogether(text, text, new Random(text.length()));
        }

        Checks.end();
    }
}
