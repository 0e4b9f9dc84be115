/** Every connected net of up to five points, each question with every number (argument: points, six at most). */
public final class SmallNetsTest {
    private static final int[] CONNECTED = {0, 1, 1, 4, 38, 728, 26704};
    private static final String[] WHOLE = {"allSymmetries", "orbits", "colours", "trees", "width", "wiener", "centre",
        "even", "cubic", "medians", "loosest"};
    private static final String[] OF_PAIRS = {"between", "far", "ways", "amid", "with"};
    private static final String[] OF_PARTS = {"first", "size", "symmetries", "kind", "partColours"};

    public static void main(String[] args) {
        int most = args.length > 0 ? Integer.parseInt(args[0]) : 5;
        for (int n = 1; n <= most; n++) {
            int nets = 0;
            for (int set = 0; set < 1 << n * (n - 1) / 2; set++) {
                String text = text(n, set);
                if (Texts.told(new FactorNets(), text) == n) {
                    nets++;
                    ask(new Asker(text));
                }
            }
            Checks.due("connected nets of " + n + " points", nets, CONNECTED[n]);
        }
        Checks.end();
    }

    private static String text(int n, int set) {
        StringBuilder b = new StringBuilder("net points " + n + ";");
        int bit = 0;
        for (int p = 0; p < n; p++) {
            for (int q = 0; q < p; q++) {
                if ((set >> bit & 1) != 0) {
                    b.append("line").append(p).append(' ').append(q).append(';');
                }
                bit++;
            }
        }
        return b.toString();
    }

    private static void ask(Asker asker) {
        for (int what = -1; what <= 8; what++) {
            asker.ask("count", what);
        }
        for (String name : WHOLE) {
            asker.ask(name);
        }
        asker.askOut();
        for (int d = -1; d <= asker.points; d++) {
            asker.ask("pairs", d);
        }
        for (int set = -1; set <= 1 << asker.points; set++) {
            asker.ask("hull", set);
        }
        for (int p = -1; p <= asker.points; p++) {
            askPoint(asker, p);
        }
        for (int l = -1; l <= asker.lines; l++) {
            askLine(asker, l);
        }
        for (int k = -1; k <= asker.parts; k++) {
            askPart(asker, k);
        }
        for (int s = -1; s <= asker.sides; s++) {
            askSide(asker, s);
        }
    }

    private static void askPoint(Asker asker, int p) {
        asker.ask("beside", p);
        asker.ask("orbit", p);
        asker.ask("fixers", p);
        for (int i = -1; i <= asker.points; i++) {
            asker.ask("shell", p, i);
        }
        for (long k = -1; k <= asker.symmetries; k++) {
            asker.ask("moves", k, p);
        }
        for (int q = -1; q <= asker.points; q++) {
            for (String name : OF_PAIRS) {
                asker.ask(name, p, q);
            }
            for (int r = -1; r <= asker.points; r++) {
                asker.ask("median", p, q, r);
                asker.ask("route", p, q, r);
                for (int t = -1; t <= asker.points; t++) {
                    asker.ask("takes", p, q, r, t);
                }
            }
        }
    }

    private static void askLine(Asker asker, int l) {
        asker.ask("without", l);
        for (int i = -1; i <= 4; i++) {
            asker.ask("line", l, i);
            asker.ask("nearer", l, i);
        }
        for (int m = -1; m <= asker.lines; m++) {
            asker.ask("theta", l, m);
            asker.ask("tau", l, m);
        }
    }

    private static void askPart(Asker asker, int k) {
        for (String name : OF_PARTS) {
            asker.ask(name, k);
        }
        for (int j = -1; j <= asker.parts; j++) {
            asker.ask("alike", k, j);
        }
        for (int p = -1; p <= asker.points; p++) {
            asker.ask("corner", k, p);
            asker.ask("layer", p, k);
            asker.ask("at", p, k);
            for (int q = -1; q <= asker.points; q++) {
                asker.ask("moved", p, k, q);
                asker.ask("partFar", k, p, q);
            }
        }
    }

    private static void askSide(Asker asker, int s) {
        asker.ask("quotient", s);
        for (int p = -1; p <= asker.points; p++) {
            asker.ask("place", p, s);
            for (int q = -1; q <= asker.points; q++) {
                asker.ask("sideFar", s, p, q);
            }
        }
    }
}
