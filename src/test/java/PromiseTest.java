/** At least one test for each numbered promise: ordinary inputs, edges, wrong inputs. */
public final class PromiseTest {
    private static final String PETERSEN = "net points 10;"
        + "line 0 1;line 1 2;line 2 3;line 3 4;line 4 0;"
        + "line 5 7;line 7 9;line 9 6;line 6 8;line 8 5;"
        + "line 0 5;line 1 6;line 2 7;line 3 8;line 4 9;";
    private static final String STAR = "net points 4;line 0 1;line 0 2;line 0 3;";
    private static final String PAW = "net points 4;line 0 1;line 1 2;line 2 0;line 2 3;";

    private static int checks = 0;
    private static int wrong = 0;
    private static int promise = 0;

    private static void due(String call, long got, long want) {
        checks++;
        if (got != want) {
            wrong++;
            System.out.println("promise " + promise + ": " + call + " answered " + got + ", due is " + want);
        }
    }

    private static void feed(FactorNets x, String text) {
        int had = x.count(6);
        for (int i = 0; i < text.length(); i += 20) {
            int[] words = new int[5];
            for (int j = 0; j < 20 && i + j < text.length(); j++) {
                words[j / 4] |= (text.charAt(i + j) & 255) << 24 - 8 * (j % 4);
            }
            x.feed(words[0], words[1], words[2], words[3], words[4]);
        }
        x.end(had + text.length());
    }

    private static int told(FactorNets x, String text) {
        feed(x, text);
        return x.net();
    }

    private static FactorNets of(String text) {
        FactorNets x = new FactorNets();
        int points = told(x, text);
        if (points < 1) {
            due("net() of " + text, points, 1);
        }
        return x;
    }

    private static String out(FactorNets x) {
        StringBuilder b = new StringBuilder();
        for (int i = 0; i < x.count(7); i++) {
            b.append((char) x.octet(i));
        }
        return b.toString();
    }

    private static void dueText(String call, String got, String want) {
        due(call + " told '" + got + "' for '" + want + "'", got.equals(want) ? 1 : 0, 1);
    }

    private static void dueFault(String text, int fault, int place) {
        FactorNets x = new FactorNets();
        due("net() of '" + text + "'", told(x, text), -4);
        due("fault(0) of '" + text + "'", x.fault(0), fault);
        due("fault(1) of '" + text + "'", x.fault(1), place);
        due("count(6) behind '" + text + "'", x.count(6), 0);
    }

    public static void main(String[] args) {
        text();
        faults();
        pointsAndLines();
        partsOfNets();
        symmetriesOfNets();
        wholes();
        sides();
        lessAndMore();
        acts();
        imagesAndUndo();
        System.out.println(checks + " checks, " + wrong + " wrong");
        if (wrong != 0) {
            System.exit(1);
        }
    }

    private static void text() {
        promise = 1;
        FactorNets x = new FactorNets();
        for (int i = 0; i < 8; i++) {
            due("count(" + i + ") of a new one", x.count(i), 0);
        }
        due("tell() of a new one", x.tell(), -2);
        due("octet(0) of a new one", x.octet(0), -1);

        promise = 2;
        for (int i = 1; i <= 40; i++) {
            due("feed " + i, x.feed(0, 0, 0, 0, 0), 20 * i);
        }
        due("feed beyond 800", x.feed(1, 2, 3, 4, 5), -1);
        due("count(6) at 800", x.count(6), 800);
        due("end(781)", x.end(781), 781);
        due("feed at 781", x.feed(0, 0, 0, 0, 0), -1);
        due("end(780)", x.end(780), 780);
        due("feed at 780", x.feed(0, 0, 0, 0, 0), 800);
        due("end(0)", x.end(0), 0);
        // Bytes above 127 come whole, and none of them is a token.
        due("feed(-1 ..)", x.feed(0x20202020, 0xFF202020, 0, 0, 0), 20);
        due("net()", x.net(), -4);
        due("fault(1)", x.fault(1), 4);

        promise = 3;
        x = new FactorNets();
        due("end(0) of none", x.end(0), 0);
        due("end(1) of none", x.end(1), -1);
        due("end(-1)", x.end(-1), -1);
        feed(x, "row 3;row 2;");
        due("end(13)", x.end(13), -1);
        due("count(6)", x.count(6), 12);
        due("end(6)", x.end(6), 6);
        due("count(6)", x.count(6), 6);
        due("end(7)", x.end(7), -1);

        promise = 4;
        due("net()", x.net(), 3);
        due("count(6)", x.count(6), 0);
        due("blanks alone", told(x, " \n "), 0);
        due("count(0)", x.count(0), 0);
        due("count(2)", x.count(2), 0);
        due("no blanks", told(x, "row3;row2;line0 5;"), 6);
        due("count(1)", x.count(1), 8);
        due("count(2)", x.count(2), 3);
        due("many blanks", told(x, "\n net\npoints  2\n;line 1 0 ; "), 2);
        due("leading zeros", told(x, "row 0000000000000000000000000000000003;"), 3);
        due("join", x.join(0, 2), 3);
        due("fault", told(x, "row 3"), -4);
        due("all stays with a fault", x.count(1), 3);
        due("acts stay with a fault", x.count(5), 1);
        due("not connected", told(x, "net points 2;"), -5);
        due("all stays with -5", x.count(1), 3);
        due("acts stay with -5", x.count(5), 1);
        due("text lines stay", x.count(2), 1);
        due("another net", told(x, "full 3;"), 3);
        due("no acts then", x.count(5), 0);
        due("a product of a net", told(x, "net points 3;line 0 1;line 1 2;row 2;"), 6);
        due("its lines", x.count(1), 7);
        due("of pieces", told(x, "net points 2;row 2;"), -5);
        due("pieces joined later", told(x, "net points 2;row 2;line 3 2;"), 4);
        due("twenty points", told(x, "net points 1;full 20;"), 20);
        due("its lines", x.count(1), 190);
        due("nothing", x.net(), 0);
        due("nothing there then", x.undo(), -2);
    }

    private static void faults() {
        promise = 5;
        FactorNets x = new FactorNets();
        due("fault(0) ahead of any", x.fault(0), 0);
        due("fault(1) ahead of any", x.fault(1), -1);
        due("fault(2)", x.fault(2), -1);
        due("fault(-1)", x.fault(-1), -1);
        dueFault("net points 0;", 2, 11);
        dueFault("net points 21;", 2, 11);
        dueFault("net points;", 1, 10);
        dueFault("net point 3;", 1, 4);
        dueFault("net 3;", 1, 4);
        dueFault("netpoints 3;", 1, 0);
        dueFault("line 0 1;", 1, 0);
        dueFault("row 3;net points 3;", 1, 6);
        dueFault("net points 3;net points 3;", 1, 13);
        dueFault(";", 1, 0);
        dueFault("row 3;;", 1, 6);
        dueFault("3;", 1, 0);
        dueFault("row 3 3;", 1, 6);
        dueFault("row;", 1, 3);
        dueFault("row", 1, 3);
        dueFault("row 3 \n", 1, 7);
        dueFault("row 3;line 0 ;", 1, 13);
        dueFault("row 3;line 0 2", 1, 14);
        dueFault("Row 3;", 1, 0);
        dueFault("row\t3;", 1, 3);
        dueFault("row 1;", 2, 4);
        dueFault("row 21;", 2, 4);
        dueFault("row 99999999999999999999;", 2, 4);
        dueFault("ring 2;", 2, 5);
        dueFault("full 1;", 2, 5);
        dueFault("row 4;full 6;", 3, 11);
        dueFault("row 4;ring 2;", 2, 11);
        dueFault("row 11;ring 2;", 2, 12);
        dueFault("row 11;row 2;", 3, 11);
        dueFault("row 3;line 3 0;", 2, 11);
        dueFault("row 3;line 0 3;", 2, 13);
        dueFault("row 3;line 2 2;", 2, 13);
        dueFault("row 3;line 1 0;", 2, 13);
        dueFault("row 3;line 0 2;line 2 0;", 2, 22);
        dueFault("row 3;line x 9;", 1, 11);
        dueFault("row 3;line 9 x;", 2, 11);
        dueFault("row 3;line 0 5;row 2;", 2, 13);
        told(x, "row 9");
        told(x, "net points 2;");
        due("fault(0) with -5", x.fault(0), 0);
        due("fault(1) with -5", x.fault(1), -1);
        told(x, "row 9");
        told(x, "row 9;");
        due("fault(0) mended", x.fault(0), 0);
        due("fault(1) mended", x.fault(1), -1);
    }

    private static void pointsAndLines() {
        promise = 6;
        FactorNets x = of("row 2;row 3;line 0 5;");
        due("count(0)", x.count(0), 6);
        due("count(1)", x.count(1), 8);
        due("count(2)", x.count(2), 3);
        due("count(3)", x.count(3), 1);
        x.cut(x.between(0, 5));
        due("count(3)", x.count(3), 2);
        due("count(4)", x.count(4), 3);
        due("count(5)", x.count(5), 1);
        due("count(2)", x.count(2), 3);
        x.tell();
        due("count(7)", x.count(7), 11);
        due("count(8)", x.count(8), -1);
        due("count(-1)", x.count(-1), -1);

        promise = 7;
        x = of("ring 5;");
        int[][] ends = {{0, 1}, {0, 4}, {1, 2}, {2, 3}, {3, 4}};
        for (int l = 0; l < 5; l++) {
            due("line(" + l + ", 0)", x.line(l, 0), ends[l][0]);
            due("line(" + l + ", 1)", x.line(l, 1), ends[l][1]);
            due("line(" + l + ", 2)", x.line(l, 2), 0);
            due("line(" + l + ", 3)", x.line(l, 3), 0);
        }
        due("line(5, 0)", x.line(5, 0), -2);
        due("line(-1, 0)", x.line(-1, 0), -2);
        due("line(0, 4)", x.line(0, 4), -2);
        due("line(0, -1)", x.line(0, -1), -2);
        x = of("row 3;row 2;");
        int[] parts = {0, 1, 0, 1, 1, 0, 0};
        int[] sides = {0, 1, 2, 1, 1, 0, 2};
        for (int l = 0; l < 7; l++) {
            due("line(" + l + ", 2)", x.line(l, 2), parts[l]);
            due("line(" + l + ", 3)", x.line(l, 3), sides[l]);
        }

        promise = 8;
        due("between(5, 4)", x.between(5, 4), 6);
        due("between(0, 4)", x.between(0, 4), -1);
        due("between(1, 1)", x.between(1, 1), -1);
        due("between(0, 6)", x.between(0, 6), -2);
        due("between(-1, 0)", x.between(-1, 0), -2);

        promise = 9;
        due("beside(4)", x.beside(4), 0b101010);
        due("beside(6)", x.beside(6), -2);
        due("beside(-1)", x.beside(-1), -2);

        promise = 10;
        due("far(0, 5)", x.far(0, 5), 3);
        due("far(2, 2)", x.far(2, 2), 0);
        due("far(6, 0)", x.far(6, 0), -2);
        due("far(0, 6)", x.far(0, 6), -2);

        promise = 11;
        due("ways(0, 5)", x.ways(0, 5), 3);
        due("ways(3, 3)", x.ways(3, 3), 1);
        due("ways(0, 6)", x.ways(0, 6), -2);
        due("ways in 4 * 5", of("row 4;row 5;").ways(0, 19), 35);
        due("ways in a cube", of("row 2;row 2;row 2;row 2;").ways(0, 15), 24);

        promise = 12;
        due("amid(0, 4)", x.amid(0, 4), 0b011011);
        due("amid(5, 5)", x.amid(5, 5), 0b100000);
        due("amid(0, 5)", x.amid(0, 5), 0b111111);
        due("amid(0, 6)", x.amid(0, 6), -2);

        promise = 13;
        due("theta(0, 5)", x.theta(0, 5), 1);
        due("theta(0, 2)", x.theta(0, 2), 0);
        due("theta(1, 4)", x.theta(1, 4), 1);
        due("theta(3, 3)", x.theta(3, 3), 1);
        due("theta(7, 0)", x.theta(7, 0), -2);
        due("theta(0, -1)", x.theta(0, -1), -2);
        FactorNets five = of("ring 5;");
        due("theta in a ring of 5, beside", five.theta(0, 1), 0);
        due("theta in a ring of 5, across", five.theta(0, 3), 1);
        due("theta in a full net", of("full 3;").theta(0, 2), 1);

        promise = 14;
        due("tau(0, 2)", x.tau(0, 2), 1);
        due("tau(0, 1)", x.tau(0, 1), 0);
        due("tau(2, 2)", x.tau(2, 2), 0);
        due("tau(0, 5)", x.tau(0, 5), 0);
        due("tau(0, 7)", x.tau(0, 7), -2);
        due("tau in a full 3", of("full 3;").tau(0, 1), 1);
        due("tau in a full 4", of("full 4;").tau(0, 1), 0);
        due("tau in a paw", of(PAW).tau(1, 3), 1);
    }

    private static void partsOfNets() {
        promise = 15;
        FactorNets x = of("row 3;ring 5;");
        due("first(0)", x.first(0), 0);
        due("first(1)", x.first(1), 1);
        due("first(2)", x.first(2), -1);
        due("first(-1)", x.first(-1), -2);
        due("first(0) of a point", of("net points 1;").first(0), -1);
        due("first(0) of none", new FactorNets().first(0), -2);

        promise = 16;
        due("layer(4, 0)", x.layer(4, 0), 0b111000);
        due("layer(4, 1)", x.layer(4, 1), 0b010010010010010);
        due("layer(15, 0)", x.layer(15, 0), -2);
        due("layer(0, 2)", x.layer(0, 2), -2);
        due("layer(0, -1)", x.layer(0, -1), -2);

        promise = 17;
        due("size(0)", x.size(0), 3);
        due("size(1)", x.size(1), 5);
        due("size(2)", x.size(2), -2);
        due("size(-1)", x.size(-1), -2);
        due("size(0) of a point", of("net points 1;").size(0), -2);

        promise = 18;
        due("corner(1, 4)", x.corner(1, 4), 12);
        due("corner(0, 2)", x.corner(0, 2), 2);
        due("corner(0, 3)", x.corner(0, 3), -1);
        due("corner(0, -1)", x.corner(0, -1), -2);
        due("corner(2, 0)", x.corner(2, 0), -2);

        promise = 19;
        for (int p = 0; p < 15; p++) {
            due("at(" + p + ", 0)", x.at(p, 0), p % 3);
            due("at(" + p + ", 1)", x.at(p, 1), p / 3);
        }
        due("at(15, 0)", x.at(15, 0), -2);
        due("at(0, 2)", x.at(0, 2), -2);

        promise = 20;
        for (int p = 0; p < 15; p++) {
            due("moved(" + p + ", 0, 10)", x.moved(p, 0, 10), p / 3 * 3 + 1);
            due("moved(" + p + ", 1, 10)", x.moved(p, 1, 10), p % 3 + 9);
        }
        due("moved(0, 2, 0)", x.moved(0, 2, 0), -2);
        due("moved(0, 0, 15)", x.moved(0, 0, 15), -2);
        due("moved(-1, 0, 0)", x.moved(-1, 0, 0), -2);

        promise = 21;
        due("partFar(0, 0, 14)", x.partFar(0, 0, 14), 2);
        due("partFar(1, 0, 14)", x.partFar(1, 0, 14), 1);
        due("partFar(1, 3, 11)", x.partFar(1, 3, 11), 2);
        due("partFar(0, 1, 13)", x.partFar(0, 1, 13), 0);
        due("partFar(2, 0, 0)", x.partFar(2, 0, 0), -2);
        due("partFar(0, 0, 15)", x.partFar(0, 0, 15), -2);

        promise = 22;
        due("alike(0, 1)", x.alike(0, 1), 0);
        due("alike(1, 1)", x.alike(1, 1), 1);
        due("alike(0, 2)", x.alike(0, 2), -2);
        due("alike(-1, 0)", x.alike(-1, 0), -2);
        due("alike 4 and 4", of("full 4;full 4;").alike(0, 1), 1);
        due("alike full 4 and row 4", of("full 4;row 4;").alike(0, 1), 0);
        due("alike star and row 4", of(STAR + "row 4;").alike(0, 1), 0);
        due("alike row 4 by others", of("net points 4;line 2 0;line 0 3;line 3 1;row 4;").alike(0, 1), 1);

        promise = 27;
        due("kind row", x.kind(0), 0);
        due("kind ring", x.kind(1), 1);
        due("kind(2)", x.kind(2), -2);
        due("kind row 2", of("full 2;").kind(0), 0);
        due("kind ring 3", of("ring 3;").kind(0), 2);
        due("kind full 20", of("full 20;").kind(0), 2);
        due("kind row 20", of("row 20;").kind(0), 0);
        due("kind star", of(STAR).kind(0), 3);
        due("kind paw", of(PAW).kind(0), 3);
        due("kind of ring 4's", of("ring 4;").kind(1), 0);
        due("kind of a point", of("net points 1;").kind(0), -2);

        promise = 28;
        due("tell()", x.tell(), 12);
        dueText("row 3;ring 5;", out(x), "row 3 ring 5");
        told(x, "");
        due("tell() of none", x.tell(), -2);
        dueText("OUT stays", out(x), "row 3 ring 5");
        dueTold("row 2;row 2;row 2;row 2;", "row 2 row 2 row 2 row 2");
        dueTold("net points 1;", "one");
        dueTold(STAR, "net 4 3");
        dueTold("full 20;", "full 20");
        dueTold("row 20;line 0 18;", "net 20 20");
        dueTold(PETERSEN + "row 2;", "net 10 15 row 2");
        dueTold("full 3;" + "row 3;row 2;", "full 3 row 3 row 2");

        promise = 29;
        x = of("row 2;");
        x.tell();
        due("octet(0)", x.octet(0), 'r');
        due("octet(4)", x.octet(4), '2');
        due("octet(5)", x.octet(5), -1);
        due("octet(-1)", x.octet(-1), -1);

        promise = 30;
        x = of("row 3;ring 5;");
        int[] way = {0, 1, 2, 5, 8, -1, -1};
        for (int i = 0; i < way.length; i++) {
            due("route(0, 8, " + i + ")", x.route(0, 8, i), way[i]);
        }
        due("route(7, 7, 0)", x.route(7, 7, 0), 7);
        due("route(7, 7, 1)", x.route(7, 7, 1), -1);
        due("route far i", x.route(0, 8, Integer.MAX_VALUE), -1);
        due("route(0, 8, -1)", x.route(0, 8, -1), -2);
        due("route(0, 15, 0)", x.route(0, 15, 0), -2);
        due("the least one", of("ring 6;").route(3, 0, 1), 2);
        due("the least one", of("ring 6;").route(0, 3, 1), 1);
    }

    private static void dueTold(String text, String want) {
        FactorNets x = of(text);
        due("tell() of " + text, x.tell(), want.length());
        dueText(text, out(x), want);
    }

    private static void symmetriesOfNets() {
        long factorial20 = 2432902008176640000L;
        promise = 23;
        FactorNets x = of("row 3;ring 5;");
        due("symmetries(0)", x.symmetries(0), 2);
        due("symmetries(1)", x.symmetries(1), 10);
        due("symmetries(2)", x.symmetries(2), -2);
        due("symmetries of full 20", of("full 20;").symmetries(0), factorial20);
        due("symmetries of petersen", of(PETERSEN + "row 2;").symmetries(0), 120);

        promise = 24;
        due("allSymmetries()", x.allSymmetries(), 20);
        due("of full 20", of("full 20;").allSymmetries(), factorial20);
        due("of full 10 * 2", of("full 10;row 2;").allSymmetries(), 7257600);
        due("of full 4 * full 4", of("full 4;full 4;").allSymmetries(), 1152);
        due("of ring 20", of("ring 20;").allSymmetries(), 40);
        due("of a point", of("net points 1;").allSymmetries(), 1);
        due("of none", new FactorNets().allSymmetries(), -2);
        due("of petersen * 2", of(PETERSEN + "row 2;").allSymmetries(), 240);

        promise = 25;
        due("orbit(4)", x.orbit(4), 0b010010010010010);
        due("orbit(3)", x.orbit(3), 0b101101101101101);
        due("orbit(15)", x.orbit(15), -2);
        due("orbit(-1)", x.orbit(-1), -2);
        due("orbit in a star", of(STAR).orbit(2), 0b1110);
        due("orbit in a paw", of(PAW).orbit(3), 0b1000);

        promise = 26;
        FactorNets ring = of("ring 5;");
        due("takes(0, 1, 1, 2)", ring.takes(0, 1, 1, 2), 1);
        due("takes(0, 1, 1, 0)", ring.takes(0, 1, 1, 0), 1);
        due("takes(0, 1, 1, 3)", ring.takes(0, 1, 1, 3), 0);
        due("takes(0, 1, 0, 2)", ring.takes(0, 1, 0, 2), 0);
        due("takes(0, 1, 2, 1)", ring.takes(0, 1, 2, 1), 0);
        due("takes(0, 1, 0, 1)", ring.takes(0, 1, 0, 1), 1);
        due("takes(0, 0, 0, 5)", ring.takes(0, 0, 0, 5), -2);
        due("takes(0, 0, -1, 0)", ring.takes(0, 0, -1, 0), -2);

        promise = 31;
        int[][] all = {{0, 1, 2, 3}, {0, 1, 3, 2}, {0, 2, 1, 3}, {0, 2, 3, 1}, {0, 3, 1, 2}, {0, 3, 2, 1}};
        FactorNets star = of(STAR);
        for (int k = 0; k < 6; k++) {
            for (int p = 0; p < 4; p++) {
                due("moves(" + k + ", " + p + ")", star.moves(k, p), all[k][p]);
            }
        }
        due("moves(6, 0)", star.moves(6, 0), -1);
        due("moves(-1, 0)", star.moves(-1, 0), -2);
        due("moves(0, 4)", star.moves(0, 4), -2);
        due("moves(6, 4)", star.moves(6, 4), -2);
        FactorNets full = of("full 20;");
        for (int p = 0; p < 20; p++) {
            due("the last of full 20", full.moves(factorial20 - 1, p), 19 - p);
            due("the first of full 20", full.moves(0, p), p);
        }
        due("none so late", full.moves(factorial20, 0), -1);
        due("none so late", full.moves(Long.MAX_VALUE, 0), -1);
        due("the least long", full.moves(Long.MIN_VALUE, 0), -2);

        promise = 32;
        due("fixers(0)", ring.fixers(0), 2);
        due("fixers(0) of a star", star.fixers(0), 6);
        due("fixers(3) of a star", star.fixers(3), 2);
        due("fixers(4) of a star", star.fixers(4), -2);
        due("fixers(19) of full 20", full.fixers(19), factorial20 / 20);

        promise = 33;
        due("orbits() of a ring", ring.orbits(), 1);
        due("orbits() of a star", star.orbits(), 2);
        due("orbits() of a paw", of(PAW).orbits(), 3);
        due("orbits() of row 20", of("row 20;").orbits(), 10);
        due("orbits() of none", new FactorNets().orbits(), -2);
    }

    private static void wholes() {
        promise = 34;
        FactorNets x = of("row 3;ring 5;");
        due("shell(0, 0)", x.shell(0, 0), 1);
        due("shell(0, 1)", x.shell(0, 1), 0b001000000001010);
        due("shell(0, 5)", x.shell(0, 5), 0);
        due("shell(0, max)", x.shell(0, Integer.MAX_VALUE), 0);
        due("shell(0, -1)", x.shell(0, -1), -2);
        due("shell(15, 0)", x.shell(15, 0), -2);
        due("shell(0, 19)", of("row 20;").shell(0, 19), 1 << 19);

        promise = 35;
        FactorNets row = of("row 20;");
        for (int d = 1; d < 22; d++) {
            due("pairs(" + d + ")", row.pairs(d), Math.max(0, 20 - d));
        }
        due("pairs(0)", row.pairs(0), 0);
        due("pairs(-1)", row.pairs(-1), -2);
        due("pairs(1) of none", new FactorNets().pairs(1), -2);

        promise = 36;
        due("colours() of petersen", of(PETERSEN).colours(), 3);
        due("colours() of row 20", row.colours(), 2);
        due("colours() of full 20", of("full 20;").colours(), 20);
        due("colours() of a point", of("net points 1;").colours(), 1);
        due("colours() of a wheel", of("ring 5;row 2;line 0 6;line 0 7;").colours(), 3);
        due("colours() of none", new FactorNets().colours(), -2);
        due("colours() of groetzsch", of("net points 11;"
            + "line 0 1;line 1 2;line 2 3;line 3 4;line 4 0;"
            + "line 5 1;line 5 4;line 6 0;line 6 2;line 7 1;line 7 3;line 8 2;line 8 4;line 9 3;line 9 0;"
            + "line 10 5;line 10 6;line 10 7;line 10 8;line 10 9;").colours(), 4);

        promise = 37;
        due("partColours(0)", x.partColours(0), 2);
        due("partColours(1)", x.partColours(1), 3);
        due("partColours(2)", x.partColours(2), -2);
        due("partColours(-1)", x.partColours(-1), -2);
        due("partColours of full 4", of("row 5;full 4;").partColours(1), 4);

        promise = 38;
        due("trees() of petersen", of(PETERSEN).trees(), 2000);
        due("trees() of a cube", of("row 2;row 2;row 2;").trees(), 384);
        due("trees() of ring 20", of("ring 20;").trees(), 20);
        due("trees() of full 20", of("full 20;").trees(), power(20, 18));
        due("trees() of full 9", of("full 9;").trees(), 4782969 % 1000003);
        due("trees() of a point", of("net points 1;").trees(), 1);
        due("trees() of none", new FactorNets().trees(), -2);

        promise = 39;
        due("width()", x.width(), 4);
        due("width() of row 20", row.width(), 19);
        due("width() of a point", of("net points 1;").width(), 0);
        due("width() of none", new FactorNets().width(), -2);

        promise = 40;
        due("wiener() of row 20", row.wiener(), 1330);
        due("wiener() of petersen", of(PETERSEN).wiener(), 75);
        due("wiener() of none", new FactorNets().wiener(), -2);

        promise = 41;
        due("centre() of row 20", row.centre(), 3 << 9);
        due("centre()", x.centre(), 0b010010010010010);
        due("centre() of a star", of(STAR).centre(), 1);
        due("centre() of none", new FactorNets().centre(), -2);

        promise = 42;
        due("even() of row 20", row.even(), 1);
        due("even() of ring 19", of("ring 19;").even(), 0);
        due("even() of a paw", of(PAW).even(), 0);
        due("even() of a point", of("net points 1;").even(), 1);
        due("even() of none", new FactorNets().even(), -2);
    }

    private static long power(int base, int exponent) {
        long result = 1;
        for (int i = 0; i < exponent; i++) {
            result = result * base % 1000003;
        }
        return result;
    }

    private static void sides() {
        promise = 43;
        FactorNets x = of("ring 5;");
        due("nearer(1, 0)", x.nearer(1, 0), 0b00011);
        due("nearer(1, 1)", x.nearer(1, 1), 0b11000);
        due("nearer(1, 2)", x.nearer(1, 2), 0b00100);
        due("nearer(1, 3)", x.nearer(1, 3), -2);
        due("nearer(1, -1)", x.nearer(1, -1), -2);
        due("nearer(5, 0)", x.nearer(5, 0), -2);

        promise = 44;
        FactorNets grid = of("row 3;row 2;");
        due("quotient(0)", grid.quotient(0), 2);
        due("quotient(2)", grid.quotient(2), 2);
        due("quotient(3)", grid.quotient(3), -2);
        due("quotient(-1)", grid.quotient(-1), -2);
        due("quotient(0) of ring 5", x.quotient(0), 5);
        due("quotient(0) of a point", of("net points 1;").quotient(0), -2);

        promise = 45;
        int[] ofSide = {0, 1, 1, 0, 1, 1};
        int[] ofOther = {0, 0, 0, 1, 1, 1};
        for (int p = 0; p < 6; p++) {
            due("place(" + p + ", 0)", grid.place(p, 0), ofSide[p]);
            due("place(" + p + ", 1)", grid.place(p, 1), ofOther[p]);
        }
        due("place(6, 0)", grid.place(6, 0), -2);
        due("place(0, 3)", grid.place(0, 3), -2);

        promise = 46;
        due("sideFar(0, 0, 5)", grid.sideFar(0, 0, 5), 1);
        due("sideFar(0, 4, 5)", grid.sideFar(0, 4, 5), 0);
        due("sideFar(0, 1, 3) of ring 5", x.sideFar(0, 1, 3), 2);
        due("sideFar(3, 0, 0)", grid.sideFar(3, 0, 0), -2);
        due("sideFar(0, 0, 6)", grid.sideFar(0, 0, 6), -2);
        FactorNets both = of("full 4;ring 5;");
        for (int p = 0; p < 20; p++) {
            int sum = 0;
            for (int s = 0; s < both.count(4); s++) {
                sum += both.sideFar(s, 0, p);
            }
            due("all sideFar of 0, " + p, sum, both.far(0, p));
        }

        promise = 47;
        due("cubic() of a grid", grid.cubic(), 1);
        due("cubic() of ring 6", of("ring 6;").cubic(), 1);
        due("cubic() of ring 5", x.cubic(), 0);
        due("cubic() of a star", of(STAR).cubic(), 1);
        due("cubic() of 2 to 3", of("net points 5;line 0 2;line 0 3;line 0 4;line 1 2;line 1 3;line 1 4;").cubic(), 0);
        due("cubic() of a point", of("net points 1;").cubic(), 1);
        due("cubic() of none", new FactorNets().cubic(), -2);

        promise = 48;
        due("hull(0 and 5)", grid.hull(0b100001), 0b111111);
        due("hull(0 and 2)", grid.hull(0b000101), 0b000111);
        due("hull(3)", grid.hull(0b001000), 0b001000);
        due("hull(0)", grid.hull(0), -2);
        due("hull(64)", grid.hull(64), -2);
        due("hull(65)", grid.hull(65), -2);
        due("hull(-1)", grid.hull(-1), -2);
        due("hull(least)", grid.hull(Integer.MIN_VALUE), -2);
        due("hull(1) of none", new FactorNets().hull(1), -2);
        due("hull in two rounds", of("row 2;row 2;row 2;row 2;").hull(0b1 | 1 << 3 | 1 << 12), 0xFFFF);

        promise = 49;
        due("median(0, 2, 4)", grid.median(0, 2, 4), 0b000010);
        due("median(3, 3, 1)", grid.median(3, 3, 1), 0b001000);
        due("median(0, 2, 4) of ring 6", of("ring 6;").median(0, 2, 4), 0);
        due("median(2, 3, 4) of 2 to 3",
            of("net points 5;line 0 2;line 0 3;line 0 4;line 1 2;line 1 3;line 1 4;").median(2, 3, 4), 0b00011);
        due("median(0, 0, 6)", grid.median(0, 0, 6), -2);
        due("median(-1, 0, 0)", grid.median(-1, 0, 0), -2);

        promise = 50;
        due("medians() of a grid", grid.medians(), 1);
        due("medians() of ring 6", of("ring 6;").medians(), 0);
        due("medians() of full 3", of("full 3;").medians(), 0);
        due("medians() of 2 to 3",
            of("net points 5;line 0 2;line 0 3;line 0 4;line 1 2;line 1 3;line 1 4;").medians(), 0);
        due("medians() of a point", of("net points 1;").medians(), 1);
        due("medians() of none", new FactorNets().medians(), -2);
    }

    private static void lessAndMore() {
        promise = 51;
        FactorNets x = of("row 3;row 2;line 0 5;");
        due("without(0 5)", x.without(x.between(0, 5)), 2);
        due("without(0 1), another grid", x.without(0), 2);
        due("without(0 3)", x.without(x.between(0, 3)), 1);
        due("nothing happened", x.count(1), 8);
        due("without(8)", x.without(8), -2);
        due("without(-1)", x.without(-1), -2);
        due("without a bridge", of("row 3;").without(1), -1);
        due("without of full 20", of("full 20;").without(7), 1);
        due("without of a prime number", of("ring 19;").without(3), 1);

        promise = 52;
        FactorNets row = of("row 4;");
        due("with(0, 3)", row.with(0, 3), 2);
        due("with(3, 0)", row.with(3, 0), 2);
        due("with(0, 2)", row.with(0, 2), 1);
        due("with(0, 1)", row.with(0, 1), -1);
        due("with(2, 2)", row.with(2, 2), -1);
        due("with(0, 4)", row.with(0, 4), -2);
        due("with(4, 4)", row.with(4, 4), -2);
        due("nothing happened", row.count(1), 3);

        promise = 53;
        due("loosest()", x.loosest(), 0);
        due("loosest() of a row", row.loosest(), -1);
        due("loosest() of none", new FactorNets().loosest(), -2);
        due("loosest() of full 20", of("full 20;").loosest(), 0);
        due("loosest() of a paw", of(PAW).loosest(), 0);
        FactorNets tail = of("net points 5;line 0 1;line 1 2;line 2 3;line 3 1;line 3 4;");
        due("loosest() behind a bridge", tail.loosest(), 1);
        FactorNets cube = of("row 2;row 2;row 2;row 2;line 0 15;");
        due("loosest() of a cube and a line", cube.loosest(), cube.between(0, 15));
        cube.cut(cube.between(0, 15));
        due("loosest() behind an act", cube.loosest(), 0);
    }

    private static void acts() {
        promise = 54;
        FactorNets x = of("row 4;");
        due("join(0, 3)", x.join(0, 3), 4);
        due("join(3, 0)", x.join(3, 0), -5);
        due("join(2, 2)", x.join(2, 2), -5);
        due("join(0, 4)", x.join(0, 4), -2);
        due("join(-1, 0)", x.join(-1, 0), -2);
        due("count(3)", x.count(3), 2);
        due("count(5)", x.count(5), 1);

        promise = 55;
        due("cut(4)", x.cut(4), -2);
        due("cut(-1)", x.cut(-1), -2);
        due("cut(0)", x.cut(0), 3);
        due("cut(0) of a row", x.cut(0), -5);
        due("count(5)", x.count(5), 2);
        due("kind(0)", x.kind(0), 0);

        promise = 56;
        due("times(3, 2)", x.times(3, 2), -2);
        due("times(-1, 2)", x.times(-1, 2), -2);
        due("times(0, 1)", x.times(0, 1), -2);
        due("times(0, 11)", x.times(0, 11), -2);
        due("times(1, 2)", x.times(1, 2), -2);
        due("times(0, 6)", x.times(0, 6), -5);
        due("times(1, 5)", x.times(1, 5), 20);
        due("count(1)", x.count(1), 35);
        due("beside(0)", x.beside(0), 1 << 3 | 1 << 4 | 1 << 16);
        due("times(0, 2) at 20", x.times(0, 2), -5);
        FactorNets point = of("net points 1;");
        due("times(2, 10) of a point", point.times(2, 10), 10);
        due("its lines", point.count(1), 45);
        due("times(0, 2)", point.times(0, 2), 20);
        due("its lines", point.count(1), 100);
        due("times of none", new FactorNets().times(0, 2), -2);

        promise = 57;
        FactorNets both = of("row 3;ring 5;");
        due("keep(2)", both.keep(2), -2);
        due("keep(-1)", both.keep(-1), -2);
        due("keep(1)", both.keep(1), 5);
        due("kind(0)", both.kind(0), 1);
        due("count(1)", both.count(1), 5);
        due("beside(0)", both.beside(0), 0b10010);
        due("keep(0) of one part", both.keep(0), 5);
        due("count(5)", both.count(5), 2);
        due("keep(0) of a point", of("net points 1;").keep(0), -2);
        twentyActs();
    }

    private static void twentyActs() {
        promise = 54;
        FactorNets x = of("row 3;");
        for (int i = 0; i < 10; i++) {
            due("join", x.join(0, 2), 3);
            due("cut", x.cut(x.between(0, 2)), 2);
        }
        due("count(5)", x.count(5), 20);
        due("join at 20", x.join(0, 2), -5);
        due("join(0, 3) at 20", x.join(0, 3), -2);
        promise = 55;
        x.undo();
        due("join", x.join(1, 0), -5);
        due("undone", x.count(1), 3);
        due("cut", x.cut(1), 2);
        due("cut at 20", x.cut(0), -5);
        due("cut(9) at 20", x.cut(9), -2);
        promise = 56;
        due("times at 20", x.times(0, 2), -5);
        due("times(5, 2) at 20", x.times(5, 2), -2);
        promise = 57;
        due("keep at 20", x.keep(0), -5);
        due("keep(1) at 20", x.keep(1), -2);
        promise = 58;
        due("image at 20", x.image(2), 0);
        promise = 61;
        due("anew at 20", x.anew(), 20);
        promise = 59;
        due("back", x.back(2), 0);
        due("count(5)", x.count(5), 20);
        promise = 61;
        due("anew", x.anew(), 20);
        due("count(1)", x.count(1), 2);
    }

    private static void imagesAndUndo() {
        promise = 58;
        FactorNets x = new FactorNets();
        due("image(0) of none", x.image(0), -2);
        told(x, "ring 4;");
        due("image(-1)", x.image(-1), -2);
        due("image(3)", x.image(3), -2);
        x.join(0, 2);
        due("image(0)", x.image(0), 0);
        x.times(0, 2);
        due("image(1)", x.image(1), 0);
        due("nothing else", x.count(5), 2);

        promise = 59;
        due("back(2)", x.back(2), -6);
        due("back(3)", x.back(3), -2);
        due("back(-1)", x.back(-1), -2);
        due("back(0)", x.back(0), 0);
        due("count(0)", x.count(0), 4);
        due("count(1)", x.count(1), 5);
        due("count(5)", x.count(5), 1);
        x.join(1, 3);
        due("back(0) again", x.back(0), 0);
        due("count(1)", x.count(1), 5);
        due("another net", told(x, "full 3;"), 3);
        due("back(1) behind another net", x.back(1), 0);
        due("count(0)", x.count(0), 8);
        due("count(5)", x.count(5), 2);
        due("undo()", x.undo(), 1);
        due("count(1)", x.count(1), 5);
        due("undo()", x.undo(), 0);
        due("count(1)", x.count(1), 4);
        due("none", x.net(), 0);
        due("back(0) behind none", x.back(0), 0);
        due("count(1)", x.count(1), 5);
        textLinesOfImages();

        promise = 60;
        due("undo()", x.undo(), 0);
        due("undo() of none", x.undo(), -5);
        due("undo() without a net", new FactorNets().undo(), -2);
        x.keep(1);
        due("kept", x.count(0), 2);
        due("undo() of keep", x.undo(), 0);
        due("points again", x.count(0), 4);
        due("lines again", x.beside(1), 0b0101);

        promise = 61;
        due("anew() of none", x.anew(), 0);
        x.join(0, 2);
        x.times(2, 3);
        x.keep(0);
        due("anew()", x.anew(), 3);
        due("count(5)", x.count(5), 0);
        due("count(1)", x.count(1), 4);
        due("anew() without a net", new FactorNets().anew(), -2);
    }

    // The lines of the text go with the net: kept by an image, brought back, not changed by acts.
    private static void textLinesOfImages() {
        FactorNets x = new FactorNets();
        told(x, "row 2;row 3;line 0 5;");
        x.image(0);
        told(x, "ring 5;");
        due("count(2) of another text", x.count(2), 1);
        x.image(1);
        x.join(0, 2);
        x.image(2);
        due("count(2) behind image()", x.count(2), 1);
        x.back(0);
        due("count(2) behind back(0)", x.count(2), 3);
        x.cut(0);
        x.undo();
        x.join(0, 3);
        x.anew();
        due("count(2) behind acts", x.count(2), 3);
        told(x, "row 9");
        told(x, "net points 2;");
        due("count(2) behind texts that told none", x.count(2), 3);
        x.back(2);
        due("count(2) behind back(2)", x.count(2), 1);
        x.undo();
        due("count(2) behind undo()", x.count(2), 1);
        due("no net", x.net(), 0);
        due("count(2) of none", x.count(2), 0);
        x.back(1);
        due("count(2) behind back(1)", x.count(2), 1);
        told(x, "net points 1;");
        x.image(1);
        told(x, "full 2;line 0 1;");
        due("count(2) of one point", x.count(2), 1);
        x.back(0);
        due("count(2) behind back(0) again", x.count(2), 3);
        due("back() of no image", x.back(3), -2);
        due("count(2) then", x.count(2), 3);
        FactorNets y = new FactorNets();
        told(y, "ring 4;line 0 2;");
        due("back() of an empty image", y.back(0), -6);
        due("count(2) stays", y.count(2), 2);
    }
}
