import java.util.ArrayList;
import java.util.List;

/** Terms III, IV, VI, VII, promises 15 to 33 and 37: parts, coordinates, symmetries, what is told, routes. */
final class PartBounds {
    private static final long FACTORIAL_20 = 2432902008176640000L;
    private static final int ALL_20 = (1 << 20) - 1;
    // Three ways of 1, 2, 3 lines from point 0: it has no symmetry but that which leaves all.
    private static final String CROOKED = "net points 7;line 0 1;line 0 2;line 2 3;line 0 4;line 4 5;line 5 6;";
    // A row of three, 2 0 1, by a row of two, with points so numbered that no copy is in order:
    // 2 0 1 over 3 5 4.
    private static final String SHUFFLED = "net points 6;"
        + "line 0 2;line 0 1;line 3 5;line 5 4;line 2 3;line 0 5;line 1 4;";

    private PartBounds() {
    }

    static void run() {
        partsAsSets();
        layersAndCoordinates();
        symmetryAndAlike();
        productTerm();
        toldAndRoute();
        firstPromise();
        layerAndSize();
        cornerAndAt();
        movedAndPartFar();
        alikePromise();
        symmetriesPromises();
        orbitPromise();
        takesPromise();
        kindPromise();
        tellAndOctet();
        routePromise();
        movesPromise();
        fixersAndOrbits();
        partColoursPromise();
    }

    private static void partsAsSets() {
        Document.term("III");
        Document.says("PARTS: sets of LINES: those that are OVER AGAINST one another or FORK, over others too, "
            + "are in one; numbered by their first LINES.");
        FactorNets row = Texts.of("row 4;");
        Checks.due("theta(0, 2) of row 4", row.theta(0, 2), 0);
        Checks.due("tau(0, 2) of row 4", row.tau(0, 2), 0);
        Checks.due("line(2, 2) of row 4, over others", row.line(2, 2), 0);
        Checks.due("count(3) of row 4", row.count(3), 1);
        Checks.due("count(3) of ring 4", Texts.of("ring 4;").count(3), 2);
        Checks.due("count(3) of ring 5", Texts.of("ring 5;").count(3), 1);
        Checks.due("count(3) of 2 to 3", Texts.of(Texts.TWO_BY_THREE).count(3), 1);
        Checks.due("count(3) of full 20", Texts.of("full 20;").count(3), 1);
        Checks.due("count(3) of a cube", Texts.of("row 2;row 2;row 2;row 2;").count(3), 4);
        FactorNets both = Texts.of("full 4;row 5;");
        Checks.due("first(0) of full 4 by row 5", both.first(0), 0);
        Checks.due("first(1) of full 4 by row 5", both.first(1), 3);
        FactorNets shuffled = Texts.of(SHUFFLED);
        // Lines 0 1, 0 2, 0 5, 1 4, 2 3, 3 5, 4 5.
        int[] parts = {0, 0, 1, 1, 1, 0, 0};
        for (int l = 0; l < 7; l++) {
            Checks.due("line(" + l + ", 2) of shuffled", shuffled.line(l, 2), parts[l]);
        }
        Closure.dueParts();

        Document.says("(One POINT alone: none.)");
        FactorNets point = Texts.of(Texts.POINT);
        Checks.due("count(3) of one POINT", point.count(3), 0);
        Checks.due("first(0) of one POINT", point.first(0), -1);
        Checks.due("size(0) of one POINT", point.size(0), -2);
    }

    private static void layersAndCoordinates() {
        FactorNets x = Texts.of(SHUFFLED);
        Document.says("LAYER of a POINT by a PART: where its LINES lead.");
        int[][] layers = {{0b000111, 0b111000}, {0b100001, 0b010010, 0b001100}};
        for (int part = 0; part < 2; part++) {
            for (int layer : layers[part]) {
                for (int p = 0; p < 6; p++) {
                    if ((layer >> p & 1) != 0) {
                        Checks.due("layer(" + p + ", " + part + ")", x.layer(p, part), layer);
                    }
                }
            }
        }
        Document.says("A PART as a net: the LAYER of POINT 0 by it, and its LINES there.");
        Checks.due("size(0)", x.size(0), 3);
        Checks.due("size(1)", x.size(1), 2);
        FactorNets kept = Texts.of(SHUFFLED);
        Checks.due("keep(0)", kept.keep(0), 3);
        Checks.due("beside(0), in the middle", kept.beside(0), 0b110);
        Checks.due("beside(1)", kept.beside(1), 0b001);
        Checks.due("beside(2)", kept.beside(2), 0b001);
        Document.says("COORDINATE of a POINT by a PART: the POINT of that LAYER to which one comes from it by LINES "
            + "of other PARTS.");
        int[][] at = {{0, 1, 2, 2, 1, 0}, {0, 0, 0, 1, 1, 1}};
        for (int part = 0; part < 2; part++) {
            for (int p = 0; p < 6; p++) {
                Checks.due("at(" + p + ", " + part + ")", x.at(p, part), at[part][p]);
            }
        }
    }

    private static void symmetryAndAlike() {
        Document.term("IV");
        Document.says("A SYMMETRY of a net: POINTS change places so that LINES stay LINES.");
        Checks.due("allSymmetries() of row 2", Texts.of("row 2;").allSymmetries(), 2);
        Checks.due("allSymmetries() of one POINT", Texts.of(Texts.POINT).allSymmetries(), 1);
        Checks.due("allSymmetries() of a crooked one", Texts.of(CROOKED).allSymmetries(), 1);
        Checks.due("allSymmetries() of a paw", Texts.of(Texts.PAW).allSymmetries(), 2);
        Document.says("ALIKE are nets, POINTS of which can be put one to one so that LINES are LINES.");
        Checks.due("row 4 by its points otherwise",
            Texts.of("net points 4;line 2 0;line 0 3;line 3 1;row 4;").alike(0, 1), 1);
        Checks.due("as many POINTS and LINES, not alike", Texts.of(Texts.STAR + "row 4;").alike(0, 1), 0);
        Checks.due("as many POINTS, not as many LINES", Texts.of("row 3;full 3;").alike(0, 1), 0);
        Checks.due("as many POINTS, more LINES first", Texts.of("full 4;row 4;").alike(0, 1), 0);
        Checks.due("not as many POINTS", Texts.of("row 2;row 3;").alike(0, 1), 0);
        Checks.due("not as many ends alone", Texts.of("full 3;row 5;").alike(0, 1), 0);
    }

    private static void productTerm() {
        Document.term("VI");
        Document.says("PRODUCT of the NET (P POINTS) by a net of N: POINTS p + P times q, for each p, q; LINES between "
            + "such as differ by a LINE of the NET in p alone, or by a LINE of that net in q alone.");
        String[] kinds = {"row", "ring", "full"};
        for (int kind = 0; kind < 3; kind++) {
            dueProduct(Texts.of("net points 4;line 0 1;line 1 2;line 2 0;line 2 3;" + kinds[kind] + " 5;"),
                Texts.of(Texts.PAW), Texts.of(kinds[kind] + " 5;"));
            FactorNets acted = Texts.of(Texts.PAW);
            acted.times(kind, 4);
            dueProduct(acted, Texts.of(Texts.PAW), Texts.of(kinds[kind] + " 4;"));
        }
        dueProduct(Texts.of("net points 1;full 20;"), Texts.of(Texts.POINT), Texts.of("full 20;"));
    }

    private static void dueProduct(FactorNets x, FactorNets net, FactorNets by) {
        int size = net.count(0);
        int copies = by.count(0);
        for (int p = 0; p < x.count(0); p++) {
            int want = net.beside(p % size) << p / size * size;
            int across = by.beside(p / size);
            for (int q = 0; q < copies; q++) {
                want |= (across >> q & 1) << p % size + size * q;
            }
            Checks.due("beside(" + p + ")", x.beside(p), want);
        }
    }

    private static void dueTold(String text, String want) {
        FactorNets x = Texts.of(text);
        Checks.due("tell() of " + text, x.tell(), want.length());
        Checks.dueText("OUT of " + text, Texts.out(x), want);
    }

    private static void toldAndRoute() {
        Document.term("VII");
        Document.says("TOLD are PARTS, one behind the other with a blank between: row, ring, full (as kind()), "
            + "a blank, its POINTS; another one: net, a blank, its POINTS, a blank, its LINES.");
        dueTold("row 2;", "row 2");
        dueTold("full 2;", "row 2");
        dueTold("ring 3;", "full 3");
        dueTold("full 3;", "full 3");
        dueTold("ring 4;", "row 2 row 2");
        dueTold("ring 5;", "ring 5");
        dueTold("row 9;", "row 9");
        dueTold("row 10;", "row 10");
        dueTold("ring 20;", "ring 20");
        dueTold("full 20;", "full 20");
        dueTold(Texts.STAR, "net 4 3");
        dueTold(Texts.PETERSEN + "row 2;", "net 10 15 row 2");
        dueTold("row 2;" + "ring 9;", "row 2 ring 9");
        dueTold("ring 9;" + "row 2;", "ring 9 row 2");
        dueTold("row 2;row 2;row 2;row 2;", "row 2 row 2 row 2 row 2");
        dueTold("row 2;full 5;row 2;", "row 2 full 5 row 2");
        toldLineCounts();

        Document.says("Without PARTS: one.");
        dueTold(Texts.POINT, "one");

        Document.says("ROUTE: PART by PART, the first first: within a LAYER of the PART from POINT to POINT, each time "
            + "the least one beside it by a LINE of the PART that is nearer in it to where the other POINT is, "
            + "till it is there.");
        dueRoute("row 3;ring 5;", 0, 8, 0, 1, 2, 5, 8);
        dueRoute("row 3;ring 5;", 8, 0, 8, 7, 6, 3, 0);
        dueRoute("ring 6;", 0, 3, 0, 1, 2, 3);
        dueRoute("ring 6;", 3, 0, 3, 2, 1, 0);
        dueRoute("ring 6;", 5, 2, 5, 0, 1, 2);
        dueRoute("ring 6;row 3;", 5, 14, 5, 0, 1, 2, 8, 14);
        dueRoute(SHUFFLED, 2, 4, 2, 0, 1, 4);
        dueRoute(SHUFFLED, 4, 2, 4, 5, 3, 2);
        dueRoute("row 2;row 2;row 2;row 2;", 0, 15, 0, 1, 3, 7, 15);
        dueRoute(Texts.TWO_BY_THREE, 4, 3, 4, 0, 3);
        // 0 is beside 1, and lesser than 2, but not nearer to 3.
        dueRoute(Texts.PAW, 1, 3, 1, 2, 3);
    }

    // Numbers of LINES with one, two, three digits.
    private static void toldLineCounts() {
        dueTold("row 9;line 0 2;", "net 9 9");
        dueTold("row 9;line 0 2;line 0 3;", "net 9 10");
        int[] counts = {99, 100, 101, 109, 110, 189};
        for (int lines : counts) {
            FactorNets x = Texts.of(lines < 105 ? "full 15;" : lines < 120 ? "full 16;" : "full 20;");
            for (int acts = 0; x.count(1) > lines && acts < 20; acts++) {
                x.cut(0);
            }
            String want = "net " + x.count(0) + " " + lines;
            Checks.due("tell() of " + lines + " LINES", x.tell(), want.length());
            Checks.dueText("OUT of " + lines + " LINES", Texts.out(x), want);
        }
    }

    private static void dueRoute(String text, int from, int to, int... way) {
        FactorNets x = Texts.of(text);
        for (int i = 0; i < way.length; i++) {
            Checks.due("route(" + from + ", " + to + ", " + i + ") of " + text, x.route(from, to, i), way[i]);
        }
        Checks.due("route(" + from + ", " + to + ", " + way.length + ") of " + text, x.route(from, to, way.length), -1);
    }

    private static void firstPromise() {
        Document.promise(15);
        Document.says("The first LINE of a PART.");
        FactorNets x = Texts.of("full 4;row 5;");
        FactorNets point = Texts.of(Texts.POINT);
        FactorNets cube = Texts.of("row 2;row 2;row 2;row 2;");
        Checks.due("first(0)", x.first(0), 0);
        Checks.due("first(1)", x.first(1), 3);
        for (int k = 0; k < 4; k++) {
            Checks.due("first(" + k + ") of a cube", cube.first(k), k);
        }
        Document.says("NONE: there is none such;");
        Beyond.dueFrom("first", 2, x::first, -1);
        Beyond.dueFrom("first of a cube", 4, cube::first, -1);
        Beyond.dueFrom("first of one POINT", 0, point::first, -1);
        Document.says("-2: there is no NET, it is below 0.");
        Beyond.dueBelow("first", x::first, -2);
        Beyond.dueBelow("first of one POINT", point::first, -2);
        Beyond.dueBoth("first of none", 0, new FactorNets()::first, -2);
    }

    private static void layerAndSize() {
        FactorNets x = Texts.of("row 3;ring 5;");
        FactorNets full = Texts.of("full 20;");
        FactorNets point = Texts.of(Texts.POINT);
        Document.promise(16);
        Document.says("POINTS that one comes to from a POINT by LINES of a PART alone (it, too), as bits.");
        Checks.due("layer(0, 0)", x.layer(0, 0), 0b111);
        Checks.due("layer(14, 0)", x.layer(14, 0), 7 << 12);
        Checks.due("layer(14, 1)", x.layer(14, 1), 0b100100100100100);
        Checks.due("layer(19, 0) of full 20", full.layer(19, 0), ALL_20);
        Document.says("-2: there are none such.");
        Beyond.dueBoth("layer(?, 0)", 15, p -> x.layer(p, 0), -2);
        Beyond.dueBoth("layer(0, ?)", 2, k -> x.layer(0, k), -2);
        Checks.due("layer(15, 2)", x.layer(15, 2), -2);
        Checks.due("layer(0, 0) of one POINT", point.layer(0, 0), -2);
        Checks.due("layer(0, 0) of none", new FactorNets().layer(0, 0), -2);

        Document.promise(17);
        Document.says("How many POINTS a PART has.");
        Checks.due("size(0)", x.size(0), 3);
        Checks.due("size(1)", x.size(1), 5);
        Checks.due("size(0) of full 20", full.size(0), 20);
        Checks.due("size(0) of row 2", Texts.of("row 2;").size(0), 2);
        Document.says("-2: there is none such.");
        Beyond.dueBoth("size", 2, x::size, -2);
        Beyond.dueBoth("size of one POINT", 0, point::size, -2);
        Checks.due("size(0) of none", new FactorNets().size(0), -2);
    }

    private static void cornerAndAt() {
        FactorNets x = Texts.of("row 3;ring 5;");
        FactorNets row = Texts.of("row 20;");
        Document.promise(18);
        Document.says("The i-th POINT (from 0) of a PART: the i-th POINT of the NET, by number, "
            + "of the LAYER of POINT 0.");
        Checks.due("corner(0, 0)", x.corner(0, 0), 0);
        Checks.due("corner(1, 0)", x.corner(1, 0), 0);
        Checks.due("corner(0, 2)", x.corner(0, 2), 2);
        Checks.due("corner(1, 4)", x.corner(1, 4), 12);
        Checks.due("corner(0, 19) of row 20", row.corner(0, 19), 19);
        FactorNets shuffled = Texts.of(SHUFFLED);
        Checks.due("corner(1, 1) of shuffled", shuffled.corner(1, 1), 5);
        Checks.due("corner(0, 1) of shuffled", shuffled.corner(0, 1), 1);
        Document.says("NONE: it has not so many;");
        Beyond.dueFrom("corner(0, ?)", 3, i -> x.corner(0, i), -1);
        Beyond.dueFrom("corner(1, ?)", 5, i -> x.corner(1, i), -1);
        Beyond.dueFrom("corner(0, ?) of row 20", 20, i -> row.corner(0, i), -1);
        Document.says("-2: there is none such, i is below 0.");
        Beyond.dueBoth("corner(?, 0)", 2, k -> x.corner(k, 0), -2);
        Beyond.dueBoth("corner(?, 20)", 2, k -> x.corner(k, 20), -2);
        Beyond.dueBelow("corner(0, ?)", i -> x.corner(0, i), -2);
        Checks.due("corner(0, 0) of one POINT", Texts.of(Texts.POINT).corner(0, 0), -2);
        Checks.due("corner(0, 0) of none", new FactorNets().corner(0, 0), -2);

        Document.promise(19);
        Document.says("COORDINATE of a POINT by a PART (III): i of corner().");
        for (int part = 0; part < 2; part++) {
            for (int i = 0; i < shuffled.size(part); i++) {
                Checks.due("at(corner(" + part + ", " + i + "))", shuffled.at(shuffled.corner(part, i), part), i);
            }
        }
        Checks.due("at(14, 0)", x.at(14, 0), 2);
        Checks.due("at(14, 1)", x.at(14, 1), 4);
        Checks.due("at(19, 0) of row 20", row.at(19, 0), 19);
        Document.says("-2: there are none such.");
        Beyond.dueBoth("at(?, 0)", 15, p -> x.at(p, 0), -2);
        Beyond.dueBoth("at(0, ?)", 2, k -> x.at(0, k), -2);
        Checks.due("at(0, 0) of one POINT", Texts.of(Texts.POINT).at(0, 0), -2);
        Checks.due("at(0, 0) of none", new FactorNets().at(0, 0), -2);
    }

    private static void movedAndPartFar() {
        FactorNets x = Texts.of("row 3;ring 5;");
        FactorNets shuffled = Texts.of(SHUFFLED);
        FactorNets full = Texts.of("full 20;");
        Document.promise(20);
        Document.says("The POINT with the COORDINATES of one POINT but, by a PART, that of another one.");
        for (int p = 0; p < 15; p++) {
            Checks.due("moved(" + p + ", 0, 14)", x.moved(p, 0, 14), p / 3 * 3 + 2);
            Checks.due("moved(" + p + ", 1, 14)", x.moved(p, 1, 14), p % 3 + 12);
            Checks.due("moved(" + p + ", 0, itself)", x.moved(p, 0, p), p);
        }
        Checks.due("moved(2, 0, 4) of shuffled", shuffled.moved(2, 0, 4), 1);
        Checks.due("moved(2, 1, 4) of shuffled", shuffled.moved(2, 1, 4), 3);
        Checks.due("moved(4, 0, 2) of shuffled", shuffled.moved(4, 0, 2), 3);
        Checks.due("moved(0, 0, 19) of full 20", full.moved(0, 0, 19), 19);
        Document.says("-2 likewise.");
        Beyond.dueBoth("moved(?, 0, 0)", 15, p -> x.moved(p, 0, 0), -2);
        Beyond.dueBoth("moved(0, ?, 0)", 2, k -> x.moved(0, k, 0), -2);
        Beyond.dueBoth("moved(0, 0, ?)", 15, p -> x.moved(0, 0, p), -2);
        Checks.due("moved(0, 0, 0) of one POINT", Texts.of(Texts.POINT).moved(0, 0, 0), -2);
        Checks.due("moved(0, 0, 0) of none", new FactorNets().moved(0, 0, 0), -2);

        Document.promise(21);
        Document.says("How far COORDINATES of two POINTS are apart in a PART.");
        FactorNets y = Texts.of("row 3;ring 5;");
        for (int p = 0; p < 15; p++) {
            Checks.due("partFar(0, 0, " + p + ")", y.partFar(0, 0, p), p % 3);
            Checks.due("partFar(1, 0, " + p + ")", y.partFar(1, 0, p), Math.min(p / 3, 5 - p / 3));
            Checks.due("partFar(0, " + p + ", itself)", y.partFar(0, p, p), 0);
        }
        Checks.due("partFar(0, 2, 4) of shuffled", shuffled.partFar(0, 2, 4), 2);
        Checks.due("partFar(1, 2, 4) of shuffled", shuffled.partFar(1, 2, 4), 1);
        Checks.due("partFar(0, 0, 19) of row 20", Texts.of("row 20;").partFar(0, 0, 19), 19);
        Document.says("-2 likewise.");
        Beyond.dueBoth("partFar(?, 0, 0)", 2, k -> y.partFar(k, 0, 0), -2);
        Beyond.dueBoth("partFar(0, ?, 0)", 15, p -> y.partFar(0, p, 0), -2);
        Beyond.dueBoth("partFar(0, 0, ?)", 15, p -> y.partFar(0, 0, p), -2);
        Checks.due("partFar(0, 0, 0) of one POINT", Texts.of(Texts.POINT).partFar(0, 0, 0), -2);
        Checks.due("partFar(0, 0, 0) of none", new FactorNets().partFar(0, 0, 0), -2);
    }

    private static void alikePromise() {
        Document.promise(22);
        Document.says("1 if two PARTS are ALIKE (IV), else 0.");
        FactorNets x = Texts.of("row 2;full 5;row 2;");
        int[][] want = {{1, 0, 1}, {0, 1, 0}, {1, 0, 1}};
        for (int k = 0; k < 3; k++) {
            for (int j = 0; j < 3; j++) {
                Checks.due("alike(" + k + ", " + j + ")", x.alike(k, j), want[k][j]);
            }
        }
        Checks.due("alike(0, 0) of full 20", Texts.of("full 20;").alike(0, 0), 1);
        Checks.due("alike(0, 1) of full 4 by full 4", Texts.of("full 4;full 4;").alike(0, 1), 1);
        Checks.due("alike(0, 1) of a paw by full 4", Texts.of(Texts.PAW + "full 4;").alike(0, 1), 0);
        Document.says("-2: there are none such.");
        Beyond.dueBoth("alike(?, 0)", 3, k -> x.alike(k, 0), -2);
        Beyond.dueBoth("alike(0, ?)", 3, k -> x.alike(0, k), -2);
        Checks.due("alike(3, 3), itself", x.alike(3, 3), -2);
        Checks.due("alike(0, 0) of one POINT", Texts.of(Texts.POINT).alike(0, 0), -2);
        Checks.due("alike(0, 0) of none", new FactorNets().alike(0, 0), -2);
    }

    private static void symmetriesPromises() {
        FactorNets x = Texts.of("row 3;ring 5;");
        FactorNets point = Texts.of(Texts.POINT);
        Document.promise(23);
        Document.says("SYMMETRIES of a PART.");
        Checks.due("symmetries(0)", x.symmetries(0), 2);
        Checks.due("symmetries(1)", x.symmetries(1), 10);
        Checks.due("symmetries(0) of row 2", Texts.of("row 2;").symmetries(0), 2);
        Checks.due("symmetries(0) of full 20", Texts.of("full 20;").symmetries(0), FACTORIAL_20);
        Checks.due("symmetries(0) of a crooked one", Texts.of(CROOKED).symmetries(0), 1);
        Checks.due("symmetries(0) of a crooked one by row 2", Texts.of(CROOKED + "row 2;").symmetries(0), 1);
        Document.says("-2: there is none such.");
        Beyond.dueBoth("symmetries", 2, k -> x.symmetries(k), -2);
        Beyond.dueBoth("symmetries of one POINT", 0, k -> point.symmetries(k), -2);
        Checks.due("symmetries(0) of none", new FactorNets().symmetries(0), -2);

        Document.promise(24);
        Document.says("SYMMETRIES of the NET.");
        Checks.due("allSymmetries() of one POINT", point.allSymmetries(), 1);
        Checks.due("allSymmetries() of row 2", Texts.of("row 2;").allSymmetries(), 2);
        Checks.due("allSymmetries() of a crooked one", Texts.of(CROOKED).allSymmetries(), 1);
        long factorial = 1;
        for (int n = 2; n <= 20; n++) {
            factorial *= n;
            Checks.due("allSymmetries() of full " + n, Texts.of("full " + n + ";").allSymmetries(), factorial);
            if (n > 2) {
                Checks.due("allSymmetries() of ring " + n, Texts.of("ring " + n + ";").allSymmetries(),
                    n == 3 ? 6 : 2 * n);
            }
        }
        Document.says("-2: there is no NET.");
        Checks.due("allSymmetries() of none", new FactorNets().allSymmetries(), -2);
    }

    private static void orbitPromise() {
        Document.promise(25);
        Document.says("POINTS to which one can be taken by a SYMMETRY of the NET (it, too), as bits.");
        FactorNets crooked = Texts.of(CROOKED);
        for (int p = 0; p < 7; p++) {
            Checks.due("orbit(" + p + ") of a crooked one", crooked.orbit(p), 1 << p);
        }
        FactorNets row = Texts.of("row 20;");
        for (int p = 0; p < 20; p++) {
            Checks.due("orbit(" + p + ") of row 20", row.orbit(p), 1 << p | 1 << 19 - p);
        }
        Checks.due("orbit(19) of full 20", Texts.of("full 20;").orbit(19), ALL_20);
        Checks.due("orbit(0) of one POINT", Texts.of(Texts.POINT).orbit(0), 1);
        Checks.due("orbit(3) of a star", Texts.of(Texts.STAR).orbit(3), 0b1110);
        Document.says("-2.");
        Beyond.dueBoth("orbit", 7, crooked::orbit, -2);
        Beyond.dueFrom("orbit of row 20", 20, row::orbit, -2);
        Checks.due("orbit(0) of none", new FactorNets().orbit(0), -2);
    }

    private static void takesPromise() {
        Document.promise(26);
        Document.says("1 if a SYMMETRY of the NET takes the first POINT to the second, and the third to the fourth, "
            + "else 0.");
        FactorNets ring = Texts.of("ring 5;");
        Checks.due("takes(0, 1, 1, 2)", ring.takes(0, 1, 1, 2), 1);
        Checks.due("takes(0, 1, 1, 0)", ring.takes(0, 1, 1, 0), 1);
        Checks.due("takes(0, 1, 1, 3)", ring.takes(0, 1, 1, 3), 0);
        Checks.due("takes(0, 1, 0, 1), one POINT twice", ring.takes(0, 1, 0, 1), 1);
        Checks.due("takes(0, 1, 0, 2), one POINT to two", ring.takes(0, 1, 0, 2), 0);
        Checks.due("takes(0, 1, 2, 1), two POINTS to one", ring.takes(0, 1, 2, 1), 0);
        Checks.due("takes(0, 0, 0, 0) of one POINT", Texts.of(Texts.POINT).takes(0, 0, 0, 0), 1);
        FactorNets row = Texts.of("row 3;");
        Checks.due("takes(0, 2, 1, 1) of row 3", row.takes(0, 2, 1, 1), 1);
        Checks.due("takes(0, 2, 2, 2) of row 3", row.takes(0, 2, 2, 2), 0);
        Checks.due("takes(0, 1, 1, 0) of row 3", row.takes(0, 1, 1, 0), 0);
        Checks.due("takes(19, 0, 0, 19) of full 20", Texts.of("full 20;").takes(19, 0, 0, 19), 1);
        Document.says("-2.");
        Beyond.dueBoth("takes(?, 0, 0, 0)", 5, p -> ring.takes(p, 0, 0, 0), -2);
        Beyond.dueBoth("takes(0, ?, 0, 0)", 5, p -> ring.takes(0, p, 0, 0), -2);
        Beyond.dueBoth("takes(0, 0, ?, 0)", 5, p -> ring.takes(0, 0, p, 0), -2);
        Beyond.dueBoth("takes(0, 0, 0, ?)", 5, p -> ring.takes(0, 0, 0, p), -2);
        Checks.due("takes(0, 0, 0, 0) of none", new FactorNets().takes(0, 0, 0, 0), -2);
    }

    private static void dueKind(String text, int want) {
        Checks.due("kind(0) of " + text, Texts.of(text).kind(0), want);
    }

    private static void kindPromise() {
        Document.promise(27);
        Document.says("What a PART is: 0 a row, 1 a ring of 4 or more, 2 a full net of 3 or more, 3 another one.");
        for (int n = 2; n <= 20; n++) {
            dueKind("row " + n + ";", 0);
            dueKind("full " + n + ";", n == 2 ? 0 : 2);
            if (n >= 3) {
                dueKind("ring " + n + ";", n == 3 ? 2 : n == 4 ? 0 : 1);
            }
        }
        dueKind("net points 3;line 0 2;line 0 1;", 0);
        dueKind("net points 5;line 0 2;line 2 4;line 4 1;line 1 3;line 3 0;", 1);
        dueKind(Texts.STAR, 3);
        dueKind(CROOKED, 3);
        dueKind(Texts.PAW, 3);
        FactorNets almost = Texts.of("full 4;");
        almost.cut(0);
        Checks.due("kind(0) of full 4 less a LINE", almost.kind(0), 3);
        dueKind("row 5;line 0 2;", 3);
        dueKind("ring 5;line 0 2;", 3);
        dueKind("row 5;line 0 3;", 3);
        FactorNets both = Texts.of("row 2;ring 5;");
        Checks.due("kind(1) of row 2 by ring 5", both.kind(1), 1);
        Checks.due("kind(1) of ring 4", Texts.of("ring 4;").kind(1), 0);
        Document.says("-2: there is none such.");
        Beyond.dueBoth("kind", 2, both::kind, -2);
        Beyond.dueBoth("kind of one POINT", 0, Texts.of(Texts.POINT)::kind, -2);
        Checks.due("kind(0) of none", new FactorNets().kind(0), -2);
    }

    private static void tellAndOctet() {
        Document.promise(28);
        Document.says("The NET is TOLD (VII) in OUT: how many bytes.");
        FactorNets x = Texts.of("row 2;row 2;row 2;row 2;");
        Checks.due("count(7) ahead of tell()", x.count(7), 0);
        Checks.due("tell()", x.tell(), 23);
        Checks.due("tell() again", x.tell(), 23);
        Checks.dueText("OUT", Texts.out(x), "row 2 row 2 row 2 row 2");
        x.keep(0);
        Checks.due("count(7) behind an act", x.count(7), 23);
        Checks.due("tell() of less", x.tell(), 5);
        Checks.dueText("OUT", Texts.out(x), "row 2");
        Checks.due("octet(5), that was there", x.octet(5), -1);
        Texts.told(x, Texts.POINT);
        Checks.due("tell() of one POINT", x.tell(), 3);
        Checks.dueText("OUT", Texts.out(x), "one");
        Document.says("-2: there is no NET (OUT stays).");
        x.net();
        Checks.due("tell() of none", x.tell(), -2);
        Checks.due("count(7)", x.count(7), 3);
        Checks.dueText("OUT", Texts.out(x), "one");
        FactorNets y = new FactorNets();
        Checks.due("tell() of a new one", y.tell(), -2);
        Checks.due("count(7)", y.count(7), 0);

        Document.promise(29);
        Document.says("Byte i of OUT.");
        FactorNets z = Texts.of("ring 20;");
        z.tell();
        for (int i = 0; i < 7; i++) {
            Checks.due("octet(" + i + ")", z.octet(i), "ring 20".charAt(i));
        }
        z.net();
        Checks.due("octet(6) without a NET", z.octet(6), '0');
        Document.says("NONE: there is none such.");
        Beyond.dueBoth("octet", 7, z::octet, -1);
        Beyond.dueBoth("octet of a new one", 0, y::octet, -1);
    }

    private static void routePromise() {
        Document.promise(30);
        Document.says("The i-th POINT (from 0: the first one) of the ROUTE (VII) from one POINT to another one.");
        FactorNets row = Texts.of("row 20;");
        for (int i = 0; i < 20; i++) {
            Checks.due("route(0, 19, " + i + ") of row 20", row.route(0, 19, i), i);
            Checks.due("route(19, 0, " + i + ") of row 20", row.route(19, 0, i), 19 - i);
        }
        Checks.due("route(7, 7, 0)", row.route(7, 7, 0), 7);
        FactorNets point = Texts.of(Texts.POINT);
        Checks.due("route(0, 0, 0) of one POINT", point.route(0, 0, 0), 0);
        Document.says("NONE: it has not so many;");
        Beyond.dueFrom("route(0, 19, ?)", 20, i -> row.route(0, 19, i), -1);
        Beyond.dueFrom("route(7, 7, ?)", 1, i -> row.route(7, 7, i), -1);
        Beyond.dueFrom("route(0, 0, ?) of one POINT", 1, i -> point.route(0, 0, i), -1);
        Document.says("-2 (i below 0, too).");
        Beyond.dueBelow("route(0, 19, ?)", i -> row.route(0, 19, i), -2);
        Beyond.dueBelow("route(7, 7, ?)", i -> row.route(7, 7, i), -2);
        Beyond.dueBoth("route(?, 0, 0)", 20, p -> row.route(p, 0, 0), -2);
        Beyond.dueBoth("route(0, ?, 0)", 20, p -> row.route(0, p, 0), -2);
        Beyond.dueBoth("route(0, ?, 99)", 20, p -> row.route(0, p, 99), -2);
        Checks.due("route(0, 1, 0) of one POINT", point.route(0, 1, 0), -2);
        Checks.due("route(0, 0, 0) of none", new FactorNets().route(0, 0, 0), -2);
    }

    private static void movesPromise() {
        Document.promise(31);
        Document.says("The POINT to which the k-th (from 0) SYMMETRY of the NET takes a POINT: SYMMETRIES as rows of "
            + "the POINTS to which 0, 1, .. go, compared from the first on.");
        int[][] four = {{0, 1, 2, 3}, {0, 3, 2, 1}, {1, 0, 3, 2}, {1, 2, 3, 0}, {2, 1, 0, 3}, {2, 3, 0, 1},
            {3, 0, 1, 2}, {3, 2, 1, 0}};
        FactorNets ring = Texts.of("ring 4;");
        for (int k = 0; k < 8; k++) {
            for (int p = 0; p < 4; p++) {
                Checks.due("moves(" + k + ", " + p + ") of ring 4", ring.moves(k, p), four[k][p]);
            }
        }
        for (String text : new String[] {Texts.POINT, "row 2;", "row 3;", "full 3;", Texts.STAR, Texts.PAW, "full 4;",
            "ring 5;", "ring 6;", "row 2;row 3;", "row 2;ring 3;", Texts.TWO_BY_THREE, "row 3;line 0 2;row 2;",
            "row 6;line 0 2;line 3 5;", "full 5;", "ring 6;line 0 2;line 2 4;line 4 0;", CROOKED,
            "net points 6;line 0 1;line 0 2;line 2 3;line 0 4;line 2 5;"}) {
            dueAllMoves(text);
        }
        FactorNets full = Texts.of("full 20;");
        for (int p = 0; p < 20; p++) {
            Checks.due("the first of full 20", full.moves(0, p), p);
            Checks.due("the second of full 20", full.moves(1, p), p < 18 ? p : 37 - p);
            Checks.due("the last of full 20", full.moves(FACTORIAL_20 - 1, p), 19 - p);
            Checks.due("the first that moves 0", full.moves(FACTORIAL_20 / 20, p), p == 0 ? 1 : p == 1 ? 0 : p);
            // 2 to the 32nd is above 12! and below 13!: the first seven POINTS stay.
            Checks.due("number 2 to the 32nd", full.moves(1L << 32, p) < 7 ? 1 : 0, p < 7 ? 1 : 0);
        }
        FactorNets point = Texts.of(Texts.POINT);
        Checks.due("moves(0, 0) of one POINT", point.moves(0, 0), 0);
        Document.says("NONE: there are not so many;");
        for (long k : new long[] {8, 9, 1L << 31, 1L << 32, (1L << 32) + 1, 1L << 62, Long.MAX_VALUE}) {
            Checks.due("moves(" + k + ", 0) of ring 4", ring.moves(k, 0), -1);
            Checks.due("moves(" + k + ", 0) of one POINT", point.moves(k, 0), -1);
        }
        Checks.due("moves(1, 0) of one POINT", point.moves(1, 0), -1);
        Checks.due("moves(20!, 0) of full 20", full.moves(FACTORIAL_20, 0), -1);
        Checks.due("moves(most, 19) of full 20", full.moves(Long.MAX_VALUE, 19), -1);
        Document.says("-2: there is no such POINT, k is below 0.");
        Beyond.dueBoth("moves(0, ?)", 4, p -> ring.moves(0, p), -2);
        Beyond.dueBoth("moves(8, ?)", 4, p -> ring.moves(8, p), -2);
        Beyond.dueBelow("moves(?, 0)", k -> ring.moves(k, 0), -2);
        for (long k : new long[] {-1L << 32, -(1L << 32) + 1, Long.MIN_VALUE, Long.MIN_VALUE + 1}) {
            Checks.due("moves(" + k + ", 0) of ring 4", ring.moves(k, 0), -2);
        }
        Checks.due("moves(0, 0) of none", new FactorNets().moves(0, 0), -2);
    }

    // All rows of the points, in their order; those that keep the lines must be the symmetries.
    private static void dueAllMoves(String text) {
        FactorNets lines = Texts.of(text);
        int[] beside = new int[lines.count(0)];
        for (int p = 0; p < beside.length; p++) {
            beside[p] = lines.beside(p);
        }
        List<int[]> found = new ArrayList<>();
        place(beside, new int[beside.length], 0, found);
        FactorNets x = Texts.of(text);
        Checks.due("allSymmetries() of " + text, x.allSymmetries(), found.size());
        // No more than an object may be asked.
        for (int k = 0; k < found.size() && k < 60; k++) {
            for (int p = 0; p < beside.length; p++) {
                Checks.due("moves(" + k + ", " + p + ") of " + text, x.moves(k, p), found.get(k)[p]);
            }
        }
        Checks.due("moves(" + found.size() + ", 0) of " + text, x.moves(found.size(), 0), -1);
    }

    private static void place(int[] beside, int[] to, int point, List<int[]> found) {
        if (point == to.length) {
            found.add(to.clone());
            return;
        }
        for (int image = 0; image < to.length; image++) {
            boolean fits = true;
            for (int p = 0; p < point && fits; p++) {
                fits = to[p] != image && (beside[p] >> point & 1) == (beside[to[p]] >> image & 1);
            }
            if (fits) {
                to[point] = image;
                place(beside, to, point + 1, found);
            }
        }
    }

    private static void fixersAndOrbits() {
        FactorNets full = Texts.of("full 20;");
        FactorNets star = Texts.of(Texts.STAR);
        FactorNets point = Texts.of(Texts.POINT);
        Document.promise(32);
        Document.says("How many SYMMETRIES of the NET leave a POINT where it is.");
        Checks.due("fixers(0) of a star", star.fixers(0), 6);
        Checks.due("fixers(3) of a star", star.fixers(3), 2);
        Checks.due("fixers(0) of one POINT", point.fixers(0), 1);
        Checks.due("fixers(0) of row 2", Texts.of("row 2;").fixers(0), 1);
        Checks.due("fixers(19) of full 20", full.fixers(19), FACTORIAL_20 / 20);
        Checks.due("fixers(6) of a crooked one", Texts.of(CROOKED).fixers(6), 1);
        Document.says("-2.");
        Beyond.dueBoth("fixers", 4, p -> star.fixers(p), -2);
        Beyond.dueFrom("fixers of full 20", 20, p -> full.fixers(p), -2);
        Checks.due("fixers(0) of none", new FactorNets().fixers(0), -2);

        Document.promise(33);
        Document.says("How many different orbit() there are.");
        Checks.due("orbits() of one POINT", point.orbits(), 1);
        Checks.due("orbits() of row 2", Texts.of("row 2;").orbits(), 1);
        Checks.due("orbits() of full 20", full.orbits(), 1);
        Checks.due("orbits() of a crooked one", Texts.of(CROOKED).orbits(), 7);
        Checks.due("orbits() of row 20", Texts.of("row 20;").orbits(), 10);
        Checks.due("orbits() of row 19", Texts.of("row 19;").orbits(), 10);
        Document.says("-2: there is no NET.");
        Checks.due("orbits() of none", new FactorNets().orbits(), -2);
    }

    private static void partColoursPromise() {
        FactorNets x = Texts.of("ring 5;full 4;");
        Document.promise(37);
        Document.says("The fewest so that none of a PART is.");
        Checks.due("partColours(0) of ring 5 by full 4", x.partColours(0), 3);
        Checks.due("partColours(1) of ring 5 by full 4", x.partColours(1), 4);
        Checks.due("partColours(0) of full 20", Texts.of("full 20;").partColours(0), 20);
        Checks.due("partColours(1) of ring 4", Texts.of("ring 4;").partColours(1), 2);
        Document.says("-2: there is none such.");
        Beyond.dueBoth("partColours", 2, x::partColours, -2);
        Beyond.dueBoth("partColours of one POINT", 0, Texts.of(Texts.POINT)::partColours, -2);
        Checks.due("partColours(0) of none", new FactorNets().partColours(0), -2);
    }
}
