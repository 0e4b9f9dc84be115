import java.util.ArrayList;
import java.util.Collections;
import java.util.List;
import java.util.Random;

/** Products of any nets, their points numbered at random, so that no order of a product helps (argument: how many). */
public final class ShuffledTest {
    private static final String[] WHOLE = {"allSymmetries", "orbits", "colours", "trees", "width", "wiener", "centre",
        "even", "cubic", "medians", "loosest"};
    private static final int MOST_BYTES = 780;

    public static void main(String[] args) {
        int nets = args.length > 0 ? Integer.parseInt(args[0]) : 60;
        for (int i = 0; i < nets; i++) {
            Random random = new Random(i);
            String text = text(random);
            if (text.length() <= MOST_BYTES) {
                ask(new Asker(text), random);
            }
        }
        Checks.end();
    }

    private static String text(Random random) {
        boolean[][] net = connected(2 + random.nextInt(5), random);
        for (int i = 0; i < 3; i++) {
            int most = 20 / net.length;
            if (most >= 2 && (i == 0 || random.nextBoolean())) {
                net = Model.product(net, connected(2 + random.nextInt(most - 1), random));
            }
        }
        List<Integer> to = new ArrayList<>();
        for (int p = 0; p < net.length; p++) {
            to.add(p);
        }
        Collections.shuffle(to, random);
        List<int[]> lines = Model.linesOf(net);
        Collections.shuffle(lines, random);
        StringBuilder b = new StringBuilder("net points " + net.length + ";");
        for (int[] l : lines) {
            b.append("line").append(to.get(l[0])).append(' ').append(to.get(l[1])).append(';');
        }
        return b.toString();
    }

    private static boolean[][] connected(int n, Random random) {
        boolean[][] net = new boolean[n][n];
        int chance = random.nextInt(100);
        for (int p = 1; p < n; p++) {
            int tied = random.nextInt(p);
            for (int q = 0; q < p; q++) {
                net[p][q] = q == tied || random.nextInt(100) < chance;
                net[q][p] = net[p][q];
            }
        }
        return net;
    }

    private static void ask(Asker asker, Random random) {
        for (String name : WHOLE) {
            asker.ask(name);
        }
        asker.askOut();
        for (int k = 0; k <= asker.parts; k++) {
            askPart(asker, k, random);
        }
        for (int l = 0; l < asker.lines; l++) {
            asker.ask("line", l, 2);
            asker.ask("line", l, 3);
        }
        for (int i = 0; i < 5; i++) {
            askPoints(asker, random.nextInt(asker.points), random.nextInt(asker.points), random);
            askLine(asker, random.nextInt(asker.lines), random.nextInt(asker.lines));
        }
    }

    private static void askPart(Asker asker, int k, Random random) {
        for (String name : new String[] {"first", "size", "symmetries", "kind", "partColours"}) {
            asker.ask(name, k);
        }
        for (int j = 0; j < asker.parts; j++) {
            asker.ask("alike", k, j);
        }
        for (int p = 0; p < asker.points; p++) {
            asker.ask("corner", k, p);
            asker.ask("at", p, k);
            asker.ask("layer", p, k);
            asker.ask("partFar", k, p, random.nextInt(asker.points));
        }
        for (int i = 0; i < 3; i++) {
            asker.ask("moved", random.nextInt(asker.points), k, random.nextInt(asker.points));
        }
    }

    private static void askPoints(Asker asker, int p, int q, Random random) {
        for (String name : new String[] {"between", "far", "ways", "amid", "with"}) {
            asker.ask(name, p, q);
        }
        for (int i = 0; i < 4; i++) {
            asker.ask("route", p, q, i);
        }
        asker.ask("moves", random.nextInt(8), p);
        asker.ask("orbit", p);
        asker.ask("fixers", p);
        asker.ask("takes", p, q, q, p);
        asker.ask("median", p, q, random.nextInt(asker.points));
        asker.ask("hull", 1 << p | 1 << q);
        int side = random.nextInt(asker.sides);
        asker.ask("quotient", side);
        asker.ask("place", p, side);
        asker.ask("sideFar", side, p, q);
    }

    private static void askLine(Asker asker, int l, int m) {
        asker.ask("theta", l, m);
        asker.ask("tau", l, m);
        asker.ask("without", l);
        for (int what = 0; what < 3; what++) {
            asker.ask("nearer", l, what);
        }
    }
}
