/** At least one test for each numbered promise: ordinary inputs, edges, wrong inputs. */
public final class PromiseTest {
    private static void dueFault(String text, int fault, int place) {
        FactorNets x = new FactorNets();
        Checks.due("net() of '" + text + "'", Texts.told(x, text), -4);
        Checks.due("fault(0) of '" + text + "'", x.fault(0), fault);
        Checks.due("fault(1) of '" + text + "'", x.fault(1), place);
        Checks.due("count(6) behind '" + text + "'", x.count(6), 0);
    }

    public static void main(String[] args) {
        text();
        faults();
        pointsAndLines();
        partsOfNets();
        symmetriesOfNets();
        wholes();
        sides();
        lessAndMore();
        acts();
        imagesAndUndo();
        Checks.end();
    }

    private static void text() {
        Checks.about("promise 1");
        FactorNets x = new FactorNets();
        for (int i = 0; i < 8; i++) {
            Checks.due("count(" + i + ") of a new one", x.count(i), 0);
        }
        Checks.due("tell() of a new one", x.tell(), -2);
        Checks.due("octet(0) of a new one", x.octet(0), -1);

        Checks.about("promise 2");
        for (int i = 1; i <= 40; i++) {
            Checks.due("feed " + i, x.feed(0, 0, 0, 0, 0), 20 * i);
        }
        Checks.due("feed beyond 800", x.feed(1, 2, 3, 4, 5), -1);
        Checks.due("count(6) at 800", x.count(6), 800);
        Checks.due("end(781)", x.end(781), 781);
        Checks.due("feed at 781", x.feed(0, 0, 0, 0, 0), -1);
        Checks.due("end(780)", x.end(780), 780);
        Checks.due("feed at 780", x.feed(0, 0, 0, 0, 0), 800);
        Checks.due("end(0)", x.end(0), 0);
        // Bytes above 127 come whole, and none of them is a token.
        Checks.due("Texts.feed(-1 ..)", x.feed(0x20202020, 0xFF202020, 0, 0, 0), 20);
        Checks.due("net()", x.net(), -4);
        Checks.due("fault(1)", x.fault(1), 4);

        Checks.about("promise 3");
        x = new FactorNets();
        Checks.due("end(0) of none", x.end(0), 0);
        Checks.due("end(1) of none", x.end(1), -1);
        Checks.due("end(-1)", x.end(-1), -1);
        Texts.feed(x, "row 3;row 2;");
        Checks.due("end(13)", x.end(13), -1);
        Checks.due("count(6)", x.count(6), 12);
        Checks.due("end(6)", x.end(6), 6);
        Checks.due("count(6)", x.count(6), 6);
        Checks.due("end(7)", x.end(7), -1);

        Checks.about("promise 4");
        Checks.due("net()", x.net(), 3);
        Checks.due("count(6)", x.count(6), 0);
        Checks.due("blanks alone", Texts.told(x, " \n "), 0);
        Checks.due("count(0)", x.count(0), 0);
        Checks.due("count(2)", x.count(2), 0);
        Checks.due("no blanks", Texts.told(x, "row3;row2;line0 5;"), 6);
        Checks.due("count(1)", x.count(1), 8);
        Checks.due("count(2)", x.count(2), 3);
        Checks.due("many blanks", Texts.told(x, "\n net\npoints  2\n;line 1 0 ; "), 2);
        Checks.due("leading zeros", Texts.told(x, "row 0000000000000000000000000000000003;"), 3);
        Checks.due("join", x.join(0, 2), 3);
        Checks.due("fault", Texts.told(x, "row 3"), -4);
        Checks.due("all stays with a fault", x.count(1), 3);
        Checks.due("acts stay with a fault", x.count(5), 1);
        Checks.due("not connected", Texts.told(x, "net points 2;"), -5);
        Checks.due("all stays with -5", x.count(1), 3);
        Checks.due("acts stay with -5", x.count(5), 1);
        Checks.due("text lines stay", x.count(2), 1);
        Checks.due("another net", Texts.told(x, "full 3;"), 3);
        Checks.due("no acts then", x.count(5), 0);
        Checks.due("a product of a net", Texts.told(x, "net points 3;line 0 1;line 1 2;row 2;"), 6);
        Checks.due("its lines", x.count(1), 7);
        Checks.due("of pieces", Texts.told(x, "net points 2;row 2;"), -5);
        Checks.due("pieces joined later", Texts.told(x, "net points 2;row 2;line 3 2;"), 4);
        Checks.due("twenty points", Texts.told(x, "net points 1;full 20;"), 20);
        Checks.due("its lines", x.count(1), 190);
        Checks.due("nothing", x.net(), 0);
        Checks.due("nothing there then", x.undo(), -2);
    }

    private static void faults() {
        Checks.about("promise 5");
        FactorNets x = new FactorNets();
        Checks.due("fault(0) ahead of any", x.fault(0), 0);
        Checks.due("fault(1) ahead of any", x.fault(1), -1);
        Checks.due("fault(2)", x.fault(2), -1);
        Checks.due("fault(-1)", x.fault(-1), -1);
        dueFault("net points 0;", 2, 11);
        dueFault("net points 21;", 2, 11);
        dueFault("net points;", 1, 10);
        dueFault("net point 3;", 1, 4);
        dueFault("net 3;", 1, 4);
        dueFault("netpoints 3;", 1, 0);
        dueFault("line 0 1;", 1, 0);
        dueFault("row 3;net points 3;", 1, 6);
        dueFault("net points 3;net points 3;", 1, 13);
        dueFault(";", 1, 0);
        dueFault("row 3;;", 1, 6);
        dueFault("3;", 1, 0);
        dueFault("row 3 3;", 1, 6);
        dueFault("row;", 1, 3);
        dueFault("row", 1, 3);
        dueFault("row 3 \n", 1, 7);
        dueFault("row 3;line 0 ;", 1, 13);
        dueFault("row 3;line 0 2", 1, 14);
        dueFault("Row 3;", 1, 0);
        dueFault("row\t3;", 1, 3);
        dueFault("row 1;", 2, 4);
        dueFault("row 21;", 2, 4);
        dueFault("row 99999999999999999999;", 2, 4);
        dueFault("ring 2;", 2, 5);
        dueFault("full 1;", 2, 5);
        dueFault("row 4;full 6;", 3, 11);
        dueFault("row 4;ring 2;", 2, 11);
        dueFault("row 11;ring 2;", 2, 12);
        dueFault("row 11;row 2;", 3, 11);
        dueFault("row 3;line 3 0;", 2, 11);
        dueFault("row 3;line 0 3;", 2, 13);
        dueFault("row 3;line 2 2;", 2, 13);
        dueFault("row 3;line 1 0;", 2, 13);
        dueFault("row 3;line 0 2;line 2 0;", 2, 22);
        dueFault("row 3;line x 9;", 1, 11);
        dueFault("row 3;line 9 x;", 2, 11);
        dueFault("row 3;line 0 5;row 2;", 2, 13);
        Texts.told(x, "row 9");
        Texts.told(x, "net points 2;");
        Checks.due("fault(0) with -5", x.fault(0), 0);
        Checks.due("fault(1) with -5", x.fault(1), -1);
        Texts.told(x, "row 9");
        Texts.told(x, "row 9;");
        Checks.due("fault(0) mended", x.fault(0), 0);
        Checks.due("fault(1) mended", x.fault(1), -1);
    }

    private static void pointsAndLines() {
        Checks.about("promise 6");
        FactorNets x = Texts.of("row 2;row 3;line 0 5;");
        Checks.due("count(0)", x.count(0), 6);
        Checks.due("count(1)", x.count(1), 8);
        Checks.due("count(2)", x.count(2), 3);
        Checks.due("count(3)", x.count(3), 1);
        x.cut(x.between(0, 5));
        Checks.due("count(3)", x.count(3), 2);
        Checks.due("count(4)", x.count(4), 3);
        Checks.due("count(5)", x.count(5), 1);
        Checks.due("count(2)", x.count(2), 3);
        x.tell();
        Checks.due("count(7)", x.count(7), 11);
        Checks.due("count(8)", x.count(8), -1);
        Checks.due("count(-1)", x.count(-1), -1);

        Checks.about("promise 7");
        x = Texts.of("ring 5;");
        int[][] ends = {{0, 1}, {0, 4}, {1, 2}, {2, 3}, {3, 4}};
        for (int l = 0; l < 5; l++) {
            Checks.due("line(" + l + ", 0)", x.line(l, 0), ends[l][0]);
            Checks.due("line(" + l + ", 1)", x.line(l, 1), ends[l][1]);
            Checks.due("line(" + l + ", 2)", x.line(l, 2), 0);
            Checks.due("line(" + l + ", 3)", x.line(l, 3), 0);
        }
        Checks.due("line(5, 0)", x.line(5, 0), -2);
        Checks.due("line(-1, 0)", x.line(-1, 0), -2);
        Checks.due("line(0, 4)", x.line(0, 4), -2);
        Checks.due("line(0, -1)", x.line(0, -1), -2);
        x = Texts.of("row 3;row 2;");
        int[] parts = {0, 1, 0, 1, 1, 0, 0};
        int[] sides = {0, 1, 2, 1, 1, 0, 2};
        for (int l = 0; l < 7; l++) {
            Checks.due("line(" + l + ", 2)", x.line(l, 2), parts[l]);
            Checks.due("line(" + l + ", 3)", x.line(l, 3), sides[l]);
        }

        Checks.about("promise 8");
        Checks.due("between(5, 4)", x.between(5, 4), 6);
        Checks.due("between(0, 4)", x.between(0, 4), -1);
        Checks.due("between(1, 1)", x.between(1, 1), -1);
        Checks.due("between(0, 6)", x.between(0, 6), -2);
        Checks.due("between(-1, 0)", x.between(-1, 0), -2);

        Checks.about("promise 9");
        Checks.due("beside(4)", x.beside(4), 0b101010);
        Checks.due("beside(6)", x.beside(6), -2);
        Checks.due("beside(-1)", x.beside(-1), -2);

        Checks.about("promise 10");
        Checks.due("far(0, 5)", x.far(0, 5), 3);
        Checks.due("far(2, 2)", x.far(2, 2), 0);
        Checks.due("far(6, 0)", x.far(6, 0), -2);
        Checks.due("far(0, 6)", x.far(0, 6), -2);

        Checks.about("promise 11");
        Checks.due("ways(0, 5)", x.ways(0, 5), 3);
        Checks.due("ways(3, 3)", x.ways(3, 3), 1);
        Checks.due("ways(0, 6)", x.ways(0, 6), -2);
        Checks.due("ways in 4 * 5", Texts.of("row 4;row 5;").ways(0, 19), 35);
        Checks.due("ways in a cube", Texts.of("row 2;row 2;row 2;row 2;").ways(0, 15), 24);

        Checks.about("promise 12");
        Checks.due("amid(0, 4)", x.amid(0, 4), 0b011011);
        Checks.due("amid(5, 5)", x.amid(5, 5), 0b100000);
        Checks.due("amid(0, 5)", x.amid(0, 5), 0b111111);
        Checks.due("amid(0, 6)", x.amid(0, 6), -2);

        Checks.about("promise 13");
        Checks.due("theta(0, 5)", x.theta(0, 5), 1);
        Checks.due("theta(0, 2)", x.theta(0, 2), 0);
        Checks.due("theta(1, 4)", x.theta(1, 4), 1);
        Checks.due("theta(3, 3)", x.theta(3, 3), 1);
        Checks.due("theta(7, 0)", x.theta(7, 0), -2);
        Checks.due("theta(0, -1)", x.theta(0, -1), -2);
        FactorNets five = Texts.of("ring 5;");
        Checks.due("theta in a ring of 5, beside", five.theta(0, 1), 0);
        Checks.due("theta in a ring of 5, across", five.theta(0, 3), 1);
        Checks.due("theta in a full net", Texts.of("full 3;").theta(0, 2), 1);

        Checks.about("promise 14");
        Checks.due("tau(0, 2)", x.tau(0, 2), 1);
        Checks.due("tau(0, 1)", x.tau(0, 1), 0);
        Checks.due("tau(2, 2)", x.tau(2, 2), 0);
        Checks.due("tau(0, 5)", x.tau(0, 5), 0);
        Checks.due("tau(0, 7)", x.tau(0, 7), -2);
        Checks.due("tau in a full 3", Texts.of("full 3;").tau(0, 1), 1);
        Checks.due("tau in a full 4", Texts.of("full 4;").tau(0, 1), 0);
        Checks.due("tau in a paw", Texts.of(Texts.PAW).tau(1, 3), 1);
    }

    private static void partsOfNets() {
        Checks.about("promise 15");
        FactorNets x = Texts.of("row 3;ring 5;");
        Checks.due("first(0)", x.first(0), 0);
        Checks.due("first(1)", x.first(1), 1);
        Checks.due("first(2)", x.first(2), -1);
        Checks.due("first(-1)", x.first(-1), -2);
        Checks.due("first(0) of a point", Texts.of("net points 1;").first(0), -1);
        Checks.due("first(0) of none", new FactorNets().first(0), -2);

        Checks.about("promise 16");
        Checks.due("layer(4, 0)", x.layer(4, 0), 0b111000);
        Checks.due("layer(4, 1)", x.layer(4, 1), 0b010010010010010);
        Checks.due("layer(15, 0)", x.layer(15, 0), -2);
        Checks.due("layer(0, 2)", x.layer(0, 2), -2);
        Checks.due("layer(0, -1)", x.layer(0, -1), -2);

        Checks.about("promise 17");
        Checks.due("size(0)", x.size(0), 3);
        Checks.due("size(1)", x.size(1), 5);
        Checks.due("size(2)", x.size(2), -2);
        Checks.due("size(-1)", x.size(-1), -2);
        Checks.due("size(0) of a point", Texts.of("net points 1;").size(0), -2);

        Checks.about("promise 18");
        Checks.due("corner(1, 4)", x.corner(1, 4), 12);
        Checks.due("corner(0, 2)", x.corner(0, 2), 2);
        Checks.due("corner(0, 3)", x.corner(0, 3), -1);
        Checks.due("corner(0, -1)", x.corner(0, -1), -2);
        Checks.due("corner(2, 0)", x.corner(2, 0), -2);

        Checks.about("promise 19");
        for (int p = 0; p < 15; p++) {
            Checks.due("at(" + p + ", 0)", x.at(p, 0), p % 3);
            Checks.due("at(" + p + ", 1)", x.at(p, 1), p / 3);
        }
        Checks.due("at(15, 0)", x.at(15, 0), -2);
        Checks.due("at(0, 2)", x.at(0, 2), -2);

        Checks.about("promise 20");
        for (int p = 0; p < 15; p++) {
            Checks.due("moved(" + p + ", 0, 10)", x.moved(p, 0, 10), p / 3 * 3 + 1);
            Checks.due("moved(" + p + ", 1, 10)", x.moved(p, 1, 10), p % 3 + 9);
        }
        Checks.due("moved(0, 2, 0)", x.moved(0, 2, 0), -2);
        Checks.due("moved(0, 0, 15)", x.moved(0, 0, 15), -2);
        Checks.due("moved(-1, 0, 0)", x.moved(-1, 0, 0), -2);

        Checks.about("promise 21");
        Checks.due("partFar(0, 0, 14)", x.partFar(0, 0, 14), 2);
        Checks.due("partFar(1, 0, 14)", x.partFar(1, 0, 14), 1);
        Checks.due("partFar(1, 3, 11)", x.partFar(1, 3, 11), 2);
        Checks.due("partFar(0, 1, 13)", x.partFar(0, 1, 13), 0);
        Checks.due("partFar(2, 0, 0)", x.partFar(2, 0, 0), -2);
        Checks.due("partFar(0, 0, 15)", x.partFar(0, 0, 15), -2);

        Checks.about("promise 22");
        Checks.due("alike(0, 1)", x.alike(0, 1), 0);
        Checks.due("alike(1, 1)", x.alike(1, 1), 1);
        Checks.due("alike(0, 2)", x.alike(0, 2), -2);
        Checks.due("alike(-1, 0)", x.alike(-1, 0), -2);
        Checks.due("alike 4 and 4", Texts.of("full 4;full 4;").alike(0, 1), 1);
        Checks.due("alike full 4 and row 4", Texts.of("full 4;row 4;").alike(0, 1), 0);
        Checks.due("alike star and row 4", Texts.of(Texts.STAR + "row 4;").alike(0, 1), 0);
        Checks.due("alike row 4 by others", Texts.of("net points 4;line 2 0;line 0 3;line 3 1;row 4;").alike(0, 1), 1);

        Checks.about("promise 27");
        Checks.due("kind row", x.kind(0), 0);
        Checks.due("kind ring", x.kind(1), 1);
        Checks.due("kind(2)", x.kind(2), -2);
        Checks.due("kind row 2", Texts.of("full 2;").kind(0), 0);
        Checks.due("kind ring 3", Texts.of("ring 3;").kind(0), 2);
        Checks.due("kind full 20", Texts.of("full 20;").kind(0), 2);
        Checks.due("kind row 20", Texts.of("row 20;").kind(0), 0);
        Checks.due("kind star", Texts.of(Texts.STAR).kind(0), 3);
        Checks.due("kind paw", Texts.of(Texts.PAW).kind(0), 3);
        Checks.due("kind of ring 4's", Texts.of("ring 4;").kind(1), 0);
        Checks.due("kind of a point", Texts.of("net points 1;").kind(0), -2);

        Checks.about("promise 28");
        Checks.due("tell()", x.tell(), 12);
        Checks.dueText("row 3;ring 5;", Texts.out(x), "row 3 ring 5");
        Texts.told(x, "");
        Checks.due("tell() of none", x.tell(), -2);
        Checks.dueText("OUT stays", Texts.out(x), "row 3 ring 5");
        dueTold("row 2;row 2;row 2;row 2;", "row 2 row 2 row 2 row 2");
        dueTold("net points 1;", "one");
        dueTold(Texts.STAR, "net 4 3");
        dueTold("full 20;", "full 20");
        dueTold("row 20;line 0 18;", "net 20 20");
        dueTold(Texts.PETERSEN + "row 2;", "net 10 15 row 2");
        dueTold("full 3;" + "row 3;row 2;", "full 3 row 3 row 2");

        Checks.about("promise 29");
        x = Texts.of("row 2;");
        x.tell();
        Checks.due("octet(0)", x.octet(0), 'r');
        Checks.due("octet(4)", x.octet(4), '2');
        Checks.due("octet(5)", x.octet(5), -1);
        Checks.due("octet(-1)", x.octet(-1), -1);

        Checks.about("promise 30");
        x = Texts.of("row 3;ring 5;");
        int[] way = {0, 1, 2, 5, 8, -1, -1};
        for (int i = 0; i < way.length; i++) {
            Checks.due("route(0, 8, " + i + ")", x.route(0, 8, i), way[i]);
        }
        Checks.due("route(7, 7, 0)", x.route(7, 7, 0), 7);
        Checks.due("route(7, 7, 1)", x.route(7, 7, 1), -1);
        Checks.due("route far i", x.route(0, 8, Integer.MAX_VALUE), -1);
        Checks.due("route(0, 8, -1)", x.route(0, 8, -1), -2);
        Checks.due("route(0, 15, 0)", x.route(0, 15, 0), -2);
        Checks.due("the least one", Texts.of("ring 6;").route(3, 0, 1), 2);
        Checks.due("the least one", Texts.of("ring 6;").route(0, 3, 1), 1);
    }

    private static void dueTold(String text, String want) {
        FactorNets x = Texts.of(text);
        Checks.due("tell() of " + text, x.tell(), want.length());
        Checks.dueText(text, Texts.out(x), want);
    }

    private static void symmetriesOfNets() {
        long factorial20 = 2432902008176640000L;
        Checks.about("promise 23");
        FactorNets x = Texts.of("row 3;ring 5;");
        Checks.due("symmetries(0)", x.symmetries(0), 2);
        Checks.due("symmetries(1)", x.symmetries(1), 10);
        Checks.due("symmetries(2)", x.symmetries(2), -2);
        Checks.due("symmetries of full 20", Texts.of("full 20;").symmetries(0), factorial20);
        Checks.due("symmetries of petersen", Texts.of(Texts.PETERSEN + "row 2;").symmetries(0), 120);

        Checks.about("promise 24");
        Checks.due("allSymmetries()", x.allSymmetries(), 20);
        Checks.due("of full 20", Texts.of("full 20;").allSymmetries(), factorial20);
        Checks.due("of full 10 * 2", Texts.of("full 10;row 2;").allSymmetries(), 7257600);
        Checks.due("of full 4 * full 4", Texts.of("full 4;full 4;").allSymmetries(), 1152);
        Checks.due("of ring 20", Texts.of("ring 20;").allSymmetries(), 40);
        Checks.due("of a point", Texts.of("net points 1;").allSymmetries(), 1);
        Checks.due("of none", new FactorNets().allSymmetries(), -2);
        Checks.due("of petersen * 2", Texts.of(Texts.PETERSEN + "row 2;").allSymmetries(), 240);

        Checks.about("promise 25");
        Checks.due("orbit(4)", x.orbit(4), 0b010010010010010);
        Checks.due("orbit(3)", x.orbit(3), 0b101101101101101);
        Checks.due("orbit(15)", x.orbit(15), -2);
        Checks.due("orbit(-1)", x.orbit(-1), -2);
        Checks.due("orbit in a star", Texts.of(Texts.STAR).orbit(2), 0b1110);
        Checks.due("orbit in a paw", Texts.of(Texts.PAW).orbit(3), 0b1000);

        Checks.about("promise 26");
        FactorNets ring = Texts.of("ring 5;");
        Checks.due("takes(0, 1, 1, 2)", ring.takes(0, 1, 1, 2), 1);
        Checks.due("takes(0, 1, 1, 0)", ring.takes(0, 1, 1, 0), 1);
        Checks.due("takes(0, 1, 1, 3)", ring.takes(0, 1, 1, 3), 0);
        Checks.due("takes(0, 1, 0, 2)", ring.takes(0, 1, 0, 2), 0);
        Checks.due("takes(0, 1, 2, 1)", ring.takes(0, 1, 2, 1), 0);
        Checks.due("takes(0, 1, 0, 1)", ring.takes(0, 1, 0, 1), 1);
        Checks.due("takes(0, 0, 0, 5)", ring.takes(0, 0, 0, 5), -2);
        Checks.due("takes(0, 0, -1, 0)", ring.takes(0, 0, -1, 0), -2);

        Checks.about("promise 31");
        int[][] all = {{0, 1, 2, 3}, {0, 1, 3, 2}, {0, 2, 1, 3}, {0, 2, 3, 1}, {0, 3, 1, 2}, {0, 3, 2, 1}};
        FactorNets star = Texts.of(Texts.STAR);
        for (int k = 0; k < 6; k++) {
            for (int p = 0; p < 4; p++) {
                Checks.due("moves(" + k + ", " + p + ")", star.moves(k, p), all[k][p]);
            }
        }
        Checks.due("moves(6, 0)", star.moves(6, 0), -1);
        Checks.due("moves(-1, 0)", star.moves(-1, 0), -2);
        Checks.due("moves(0, 4)", star.moves(0, 4), -2);
        Checks.due("moves(6, 4)", star.moves(6, 4), -2);
        FactorNets full = Texts.of("full 20;");
        for (int p = 0; p < 20; p++) {
            Checks.due("the last of full 20", full.moves(factorial20 - 1, p), 19 - p);
            Checks.due("the first of full 20", full.moves(0, p), p);
        }
        Checks.due("none so late", full.moves(factorial20, 0), -1);
        Checks.due("none so late", full.moves(Long.MAX_VALUE, 0), -1);
        Checks.due("the least long", full.moves(Long.MIN_VALUE, 0), -2);

        Checks.about("promise 32");
        Checks.due("fixers(0)", ring.fixers(0), 2);
        Checks.due("fixers(0) of a star", star.fixers(0), 6);
        Checks.due("fixers(3) of a star", star.fixers(3), 2);
        Checks.due("fixers(4) of a star", star.fixers(4), -2);
        Checks.due("fixers(19) of full 20", full.fixers(19), factorial20 / 20);

        Checks.about("promise 33");
        Checks.due("orbits() of a ring", ring.orbits(), 1);
        Checks.due("orbits() of a star", star.orbits(), 2);
        Checks.due("orbits() of a paw", Texts.of(Texts.PAW).orbits(), 3);
        Checks.due("orbits() of row 20", Texts.of("row 20;").orbits(), 10);
        Checks.due("orbits() of none", new FactorNets().orbits(), -2);
    }

    private static void wholes() {
        Checks.about("promise 34");
        FactorNets x = Texts.of("row 3;ring 5;");
        Checks.due("shell(0, 0)", x.shell(0, 0), 1);
        Checks.due("shell(0, 1)", x.shell(0, 1), 0b001000000001010);
        Checks.due("shell(0, 5)", x.shell(0, 5), 0);
        Checks.due("shell(0, max)", x.shell(0, Integer.MAX_VALUE), 0);
        Checks.due("shell(0, -1)", x.shell(0, -1), -2);
        Checks.due("shell(15, 0)", x.shell(15, 0), -2);
        Checks.due("shell(0, 19)", Texts.of("row 20;").shell(0, 19), 1 << 19);

        Checks.about("promise 35");
        FactorNets row = Texts.of("row 20;");
        for (int d = 1; d < 22; d++) {
            Checks.due("pairs(" + d + ")", row.pairs(d), Math.max(0, 20 - d));
        }
        Checks.due("pairs(0)", row.pairs(0), 0);
        Checks.due("pairs(-1)", row.pairs(-1), -2);
        Checks.due("pairs(1) of none", new FactorNets().pairs(1), -2);

        Checks.about("promise 36");
        Checks.due("colours() of petersen", Texts.of(Texts.PETERSEN).colours(), 3);
        Checks.due("colours() of row 20", row.colours(), 2);
        Checks.due("colours() of full 20", Texts.of("full 20;").colours(), 20);
        Checks.due("colours() of a point", Texts.of("net points 1;").colours(), 1);
        Checks.due("colours() of a wheel", Texts.of("ring 5;row 2;line 0 6;line 0 7;").colours(), 3);
        Checks.due("colours() of none", new FactorNets().colours(), -2);
        Checks.due("colours() of groetzsch", Texts.of("net points 11;"
            + "line 0 1;line 1 2;line 2 3;line 3 4;line 4 0;"
            + "line 5 1;line 5 4;line 6 0;line 6 2;line 7 1;line 7 3;line 8 2;line 8 4;line 9 3;line 9 0;"
            + "line 10 5;line 10 6;line 10 7;line 10 8;line 10 9;").colours(), 4);

        Checks.about("promise 37");
        Checks.due("partColours(0)", x.partColours(0), 2);
        Checks.due("partColours(1)", x.partColours(1), 3);
        Checks.due("partColours(2)", x.partColours(2), -2);
        Checks.due("partColours(-1)", x.partColours(-1), -2);
        Checks.due("partColours of full 4", Texts.of("row 5;full 4;").partColours(1), 4);

        Checks.about("promise 38");
        Checks.due("trees() of petersen", Texts.of(Texts.PETERSEN).trees(), 2000);
        Checks.due("trees() of a cube", Texts.of("row 2;row 2;row 2;").trees(), 384);
        Checks.due("trees() of ring 20", Texts.of("ring 20;").trees(), 20);
        Checks.due("trees() of full 20", Texts.of("full 20;").trees(), power(20, 18));
        Checks.due("trees() of full 9", Texts.of("full 9;").trees(), 4782969 % 1000003);
        Checks.due("trees() of a point", Texts.of("net points 1;").trees(), 1);
        Checks.due("trees() of none", new FactorNets().trees(), -2);

        Checks.about("promise 39");
        Checks.due("width()", x.width(), 4);
        Checks.due("width() of row 20", row.width(), 19);
        Checks.due("width() of a point", Texts.of("net points 1;").width(), 0);
        Checks.due("width() of none", new FactorNets().width(), -2);

        Checks.about("promise 40");
        Checks.due("wiener() of row 20", row.wiener(), 1330);
        Checks.due("wiener() of petersen", Texts.of(Texts.PETERSEN).wiener(), 75);
        Checks.due("wiener() of none", new FactorNets().wiener(), -2);

        Checks.about("promise 41");
        Checks.due("centre() of row 20", row.centre(), 3 << 9);
        Checks.due("centre()", x.centre(), 0b010010010010010);
        Checks.due("centre() of a star", Texts.of(Texts.STAR).centre(), 1);
        Checks.due("centre() of none", new FactorNets().centre(), -2);

        Checks.about("promise 42");
        Checks.due("even() of row 20", row.even(), 1);
        Checks.due("even() of ring 19", Texts.of("ring 19;").even(), 0);
        Checks.due("even() of a paw", Texts.of(Texts.PAW).even(), 0);
        Checks.due("even() of a point", Texts.of("net points 1;").even(), 1);
        Checks.due("even() of none", new FactorNets().even(), -2);
    }

    private static long power(int base, int exponent) {
        long result = 1;
        for (int i = 0; i < exponent; i++) {
            result = result * base % 1000003;
        }
        return result;
    }

    private static void sides() {
        Checks.about("promise 43");
        FactorNets x = Texts.of("ring 5;");
        Checks.due("nearer(1, 0)", x.nearer(1, 0), 0b00011);
        Checks.due("nearer(1, 1)", x.nearer(1, 1), 0b11000);
        Checks.due("nearer(1, 2)", x.nearer(1, 2), 0b00100);
        Checks.due("nearer(1, 3)", x.nearer(1, 3), -2);
        Checks.due("nearer(1, -1)", x.nearer(1, -1), -2);
        Checks.due("nearer(5, 0)", x.nearer(5, 0), -2);

        Checks.about("promise 44");
        FactorNets grid = Texts.of("row 3;row 2;");
        Checks.due("quotient(0)", grid.quotient(0), 2);
        Checks.due("quotient(2)", grid.quotient(2), 2);
        Checks.due("quotient(3)", grid.quotient(3), -2);
        Checks.due("quotient(-1)", grid.quotient(-1), -2);
        Checks.due("quotient(0) of ring 5", x.quotient(0), 5);
        Checks.due("quotient(0) of a point", Texts.of("net points 1;").quotient(0), -2);

        Checks.about("promise 45");
        int[] ofSide = {0, 1, 1, 0, 1, 1};
        int[] ofOther = {0, 0, 0, 1, 1, 1};
        for (int p = 0; p < 6; p++) {
            Checks.due("place(" + p + ", 0)", grid.place(p, 0), ofSide[p]);
            Checks.due("place(" + p + ", 1)", grid.place(p, 1), ofOther[p]);
        }
        Checks.due("place(6, 0)", grid.place(6, 0), -2);
        Checks.due("place(0, 3)", grid.place(0, 3), -2);

        Checks.about("promise 46");
        Checks.due("sideFar(0, 0, 5)", grid.sideFar(0, 0, 5), 1);
        Checks.due("sideFar(0, 4, 5)", grid.sideFar(0, 4, 5), 0);
        Checks.due("sideFar(0, 1, 3) of ring 5", x.sideFar(0, 1, 3), 2);
        Checks.due("sideFar(3, 0, 0)", grid.sideFar(3, 0, 0), -2);
        Checks.due("sideFar(0, 0, 6)", grid.sideFar(0, 0, 6), -2);
        FactorNets both = Texts.of("full 4;ring 5;");
        for (int p = 0; p < 20; p++) {
            int sum = 0;
            for (int s = 0; s < both.count(4); s++) {
                sum += both.sideFar(s, 0, p);
            }
            Checks.due("all sideFar of 0, " + p, sum, both.far(0, p));
        }

        Checks.about("promise 47");
        Checks.due("cubic() of a grid", grid.cubic(), 1);
        Checks.due("cubic() of ring 6", Texts.of("ring 6;").cubic(), 1);
        Checks.due("cubic() of ring 5", x.cubic(), 0);
        Checks.due("cubic() of a star", Texts.of(Texts.STAR).cubic(), 1);
        Checks.due("cubic() of 2 to 3", Texts.of(Texts.TWO_BY_THREE).cubic(), 0);
        Checks.due("cubic() of a point", Texts.of("net points 1;").cubic(), 1);
        Checks.due("cubic() of none", new FactorNets().cubic(), -2);

        Checks.about("promise 48");
        Checks.due("hull(0 and 5)", grid.hull(0b100001), 0b111111);
        Checks.due("hull(0 and 2)", grid.hull(0b000101), 0b000111);
        Checks.due("hull(3)", grid.hull(0b001000), 0b001000);
        Checks.due("hull(0)", grid.hull(0), -2);
        Checks.due("hull(64)", grid.hull(64), -2);
        Checks.due("hull(65)", grid.hull(65), -2);
        Checks.due("hull(-1)", grid.hull(-1), -2);
        Checks.due("hull(least)", grid.hull(Integer.MIN_VALUE), -2);
        Checks.due("hull(1) of none", new FactorNets().hull(1), -2);
        Checks.due("hull in two rounds", Texts.of("row 2;row 2;row 2;row 2;").hull(0b1 | 1 << 3 | 1 << 12), 0xFFFF);

        Checks.about("promise 49");
        Checks.due("median(0, 2, 4)", grid.median(0, 2, 4), 0b000010);
        Checks.due("median(3, 3, 1)", grid.median(3, 3, 1), 0b001000);
        Checks.due("median(0, 2, 4) of ring 6", Texts.of("ring 6;").median(0, 2, 4), 0);
        Checks.due("median(2, 3, 4) of 2 to 3",
            Texts.of(Texts.TWO_BY_THREE).median(2, 3, 4), 0b00011);
        Checks.due("median(0, 0, 6)", grid.median(0, 0, 6), -2);
        Checks.due("median(-1, 0, 0)", grid.median(-1, 0, 0), -2);

        Checks.about("promise 50");
        Checks.due("medians() of a grid", grid.medians(), 1);
        Checks.due("medians() of ring 6", Texts.of("ring 6;").medians(), 0);
        Checks.due("medians() of full 3", Texts.of("full 3;").medians(), 0);
        Checks.due("medians() of 2 to 3",
            Texts.of(Texts.TWO_BY_THREE).medians(), 0);
        Checks.due("medians() of a point", Texts.of("net points 1;").medians(), 1);
        Checks.due("medians() of none", new FactorNets().medians(), -2);
    }

    private static void lessAndMore() {
        Checks.about("promise 51");
        FactorNets x = Texts.of("row 3;row 2;line 0 5;");
        Checks.due("without(0 5)", x.without(x.between(0, 5)), 2);
        Checks.due("without(0 1), another grid", x.without(0), 2);
        Checks.due("without(0 3)", x.without(x.between(0, 3)), 1);
        Checks.due("nothing happened", x.count(1), 8);
        Checks.due("without(8)", x.without(8), -2);
        Checks.due("without(-1)", x.without(-1), -2);
        Checks.due("without a bridge", Texts.of("row 3;").without(1), -1);
        Checks.due("without of full 20", Texts.of("full 20;").without(7), 1);
        Checks.due("without of a prime number", Texts.of("ring 19;").without(3), 1);

        Checks.about("promise 52");
        FactorNets row = Texts.of("row 4;");
        Checks.due("with(0, 3)", row.with(0, 3), 2);
        Checks.due("with(3, 0)", row.with(3, 0), 2);
        Checks.due("with(0, 2)", row.with(0, 2), 1);
        Checks.due("with(0, 1)", row.with(0, 1), -1);
        Checks.due("with(2, 2)", row.with(2, 2), -1);
        Checks.due("with(0, 4)", row.with(0, 4), -2);
        Checks.due("with(4, 4)", row.with(4, 4), -2);
        Checks.due("nothing happened", row.count(1), 3);

        Checks.about("promise 53");
        Checks.due("loosest()", x.loosest(), 0);
        Checks.due("loosest() of a row", row.loosest(), -1);
        Checks.due("loosest() of none", new FactorNets().loosest(), -2);
        Checks.due("loosest() of full 20", Texts.of("full 20;").loosest(), 0);
        Checks.due("loosest() of a paw", Texts.of(Texts.PAW).loosest(), 0);
        FactorNets tail = Texts.of("net points 5;line 0 1;line 1 2;line 2 3;line 3 1;line 3 4;");
        Checks.due("loosest() behind a bridge", tail.loosest(), 1);
        FactorNets cube = Texts.of("row 2;row 2;row 2;row 2;line 0 15;");
        Checks.due("loosest() of a cube and a line", cube.loosest(), cube.between(0, 15));
        cube.cut(cube.between(0, 15));
        Checks.due("loosest() behind an act", cube.loosest(), 0);
    }

    private static void acts() {
        Checks.about("promise 54");
        FactorNets x = Texts.of("row 4;");
        Checks.due("join(0, 3)", x.join(0, 3), 4);
        Checks.due("join(3, 0)", x.join(3, 0), -5);
        Checks.due("join(2, 2)", x.join(2, 2), -5);
        Checks.due("join(0, 4)", x.join(0, 4), -2);
        Checks.due("join(-1, 0)", x.join(-1, 0), -2);
        Checks.due("count(3)", x.count(3), 2);
        Checks.due("count(5)", x.count(5), 1);

        Checks.about("promise 55");
        Checks.due("cut(4)", x.cut(4), -2);
        Checks.due("cut(-1)", x.cut(-1), -2);
        Checks.due("cut(0)", x.cut(0), 3);
        Checks.due("cut(0) of a row", x.cut(0), -5);
        Checks.due("count(5)", x.count(5), 2);
        Checks.due("kind(0)", x.kind(0), 0);

        Checks.about("promise 56");
        Checks.due("times(3, 2)", x.times(3, 2), -2);
        Checks.due("times(-1, 2)", x.times(-1, 2), -2);
        Checks.due("times(0, 1)", x.times(0, 1), -2);
        Checks.due("times(0, 11)", x.times(0, 11), -2);
        Checks.due("times(1, 2)", x.times(1, 2), -2);
        Checks.due("times(0, 6)", x.times(0, 6), -5);
        Checks.due("times(1, 5)", x.times(1, 5), 20);
        Checks.due("count(1)", x.count(1), 35);
        Checks.due("beside(0)", x.beside(0), 1 << 3 | 1 << 4 | 1 << 16);
        Checks.due("times(0, 2) at 20", x.times(0, 2), -5);
        FactorNets point = Texts.of("net points 1;");
        Checks.due("times(2, 10) of a point", point.times(2, 10), 10);
        Checks.due("its lines", point.count(1), 45);
        Checks.due("times(0, 2)", point.times(0, 2), 20);
        Checks.due("its lines", point.count(1), 100);
        Checks.due("times of none", new FactorNets().times(0, 2), -2);

        Checks.about("promise 57");
        FactorNets both = Texts.of("row 3;ring 5;");
        Checks.due("keep(2)", both.keep(2), -2);
        Checks.due("keep(-1)", both.keep(-1), -2);
        Checks.due("keep(1)", both.keep(1), 5);
        Checks.due("kind(0)", both.kind(0), 1);
        Checks.due("count(1)", both.count(1), 5);
        Checks.due("beside(0)", both.beside(0), 0b10010);
        Checks.due("keep(0) of one part", both.keep(0), 5);
        Checks.due("count(5)", both.count(5), 2);
        Checks.due("keep(0) of a point", Texts.of("net points 1;").keep(0), -2);
        twentyActs();
    }

    private static void twentyActs() {
        Checks.about("promise 54");
        FactorNets x = Texts.of("row 3;");
        for (int i = 0; i < 10; i++) {
            Checks.due("join", x.join(0, 2), 3);
            Checks.due("cut", x.cut(x.between(0, 2)), 2);
        }
        Checks.due("count(5)", x.count(5), 20);
        Checks.due("join at 20", x.join(0, 2), -5);
        Checks.due("join(0, 3) at 20", x.join(0, 3), -2);
        Checks.about("promise 55");
        x.undo();
        Checks.due("join", x.join(1, 0), -5);
        Checks.due("undone", x.count(1), 3);
        Checks.due("cut", x.cut(1), 2);
        Checks.due("cut at 20", x.cut(0), -5);
        Checks.due("cut(9) at 20", x.cut(9), -2);
        Checks.about("promise 56");
        Checks.due("times at 20", x.times(0, 2), -5);
        Checks.due("times(5, 2) at 20", x.times(5, 2), -2);
        Checks.about("promise 57");
        Checks.due("keep at 20", x.keep(0), -5);
        Checks.due("keep(1) at 20", x.keep(1), -2);
        Checks.about("promise 58");
        Checks.due("image at 20", x.image(2), 0);
        Checks.about("promise 61");
        Checks.due("anew at 20", x.anew(), 20);
        Checks.about("promise 59");
        Checks.due("back", x.back(2), 0);
        Checks.due("count(5)", x.count(5), 20);
        Checks.about("promise 61");
        Checks.due("anew", x.anew(), 20);
        Checks.due("count(1)", x.count(1), 2);
    }

    private static void imagesAndUndo() {
        Checks.about("promise 58");
        FactorNets x = new FactorNets();
        Checks.due("image(0) of none", x.image(0), -2);
        Texts.told(x, "ring 4;");
        Checks.due("image(-1)", x.image(-1), -2);
        Checks.due("image(3)", x.image(3), -2);
        x.join(0, 2);
        Checks.due("image(0)", x.image(0), 0);
        x.times(0, 2);
        Checks.due("image(1)", x.image(1), 0);
        Checks.due("nothing else", x.count(5), 2);

        Checks.about("promise 59");
        Checks.due("back(2)", x.back(2), -6);
        Checks.due("back(3)", x.back(3), -2);
        Checks.due("back(-1)", x.back(-1), -2);
        Checks.due("back(0)", x.back(0), 0);
        Checks.due("count(0)", x.count(0), 4);
        Checks.due("count(1)", x.count(1), 5);
        Checks.due("count(5)", x.count(5), 1);
        x.join(1, 3);
        Checks.due("back(0) again", x.back(0), 0);
        Checks.due("count(1)", x.count(1), 5);
        Checks.due("another net", Texts.told(x, "full 3;"), 3);
        Checks.due("back(1) behind another net", x.back(1), 0);
        Checks.due("count(0)", x.count(0), 8);
        Checks.due("count(5)", x.count(5), 2);
        Checks.due("undo()", x.undo(), 1);
        Checks.due("count(1)", x.count(1), 5);
        Checks.due("undo()", x.undo(), 0);
        Checks.due("count(1)", x.count(1), 4);
        Checks.due("none", x.net(), 0);
        Checks.due("back(0) behind none", x.back(0), 0);
        Checks.due("count(1)", x.count(1), 5);
        textLinesOfImages();

        Checks.about("promise 60");
        Checks.due("undo()", x.undo(), 0);
        Checks.due("undo() of none", x.undo(), -5);
        Checks.due("undo() without a net", new FactorNets().undo(), -2);
        x.keep(1);
        Checks.due("kept", x.count(0), 2);
        Checks.due("undo() of keep", x.undo(), 0);
        Checks.due("points again", x.count(0), 4);
        Checks.due("lines again", x.beside(1), 0b0101);

        Checks.about("promise 61");
        Checks.due("anew() of none", x.anew(), 0);
        x.join(0, 2);
        x.times(2, 3);
        x.keep(0);
        Checks.due("anew()", x.anew(), 3);
        Checks.due("count(5)", x.count(5), 0);
        Checks.due("count(1)", x.count(1), 4);
        Checks.due("anew() without a net", new FactorNets().anew(), -2);
    }

    // The lines of the text go with the net: kept by an image, brought back, not changed by acts.
    private static void textLinesOfImages() {
        FactorNets x = new FactorNets();
        Texts.told(x, "row 2;row 3;line 0 5;");
        x.image(0);
        Texts.told(x, "ring 5;");
        Checks.due("count(2) of another text", x.count(2), 1);
        x.image(1);
        x.join(0, 2);
        x.image(2);
        Checks.due("count(2) behind image()", x.count(2), 1);
        x.back(0);
        Checks.due("count(2) behind back(0)", x.count(2), 3);
        x.cut(0);
        x.undo();
        x.join(0, 3);
        x.anew();
        Checks.due("count(2) behind acts", x.count(2), 3);
        Texts.told(x, "row 9");
        Texts.told(x, "net points 2;");
        Checks.due("count(2) behind texts that told none", x.count(2), 3);
        x.back(2);
        Checks.due("count(2) behind back(2)", x.count(2), 1);
        x.undo();
        Checks.due("count(2) behind undo()", x.count(2), 1);
        Checks.due("no net", x.net(), 0);
        Checks.due("count(2) of none", x.count(2), 0);
        x.back(1);
        Checks.due("count(2) behind back(1)", x.count(2), 1);
        Texts.told(x, "net points 1;");
        x.image(1);
        Texts.told(x, "full 2;line 0 1;");
        Checks.due("count(2) of one point", x.count(2), 1);
        x.back(0);
        Checks.due("count(2) behind back(0) again", x.count(2), 3);
        Checks.due("back() of no image", x.back(3), -2);
        Checks.due("count(2) then", x.count(2), 3);
        FactorNets y = new FactorNets();
        Texts.told(y, "ring 4;line 0 2;");
        Checks.due("back() of an empty image", y.back(0), -6);
        Checks.due("count(2) stays", y.count(2), 2);
    }
}
