/** Terms II, V, promises 7 to 14 and 34 to 50: points, lines, distances, sides, hulls, medians. */
final class NetBounds {
    private static final int ALL_20 = (1 << 20) - 1;
    // The cube of eight points without the last one.
    private static final String CUBE_LESS_ONE = "net points 7;line 0 1;line 0 2;line 0 4;line 1 3;line 2 3;"
        + "line 1 5;line 4 5;line 2 6;line 4 6;";
    // It has 2000006 trees, which is twice 1000003.
    private static final String NO_TREES_LEFT = "net points 11;line 0 4;line 0 6;line 0 8;line 0 9;line 1 2;line 1 3;"
        + "line 1 4;line 1 5;line 1 6;line 1 7;line 1 9;line 1 10;line 2 10;line 3 4;line 3 6;line 3 7;line 4 9;"
        + "line 4 10;line 5 6;line 5 7;line 5 8;line 5 9;line 6 8;line 6 9;line 6 10;line 7 8;line 7 9;line 7 10;"
        + "line 8 9;line 8 10;";
    // It has 11238947 trees; on the way a number is left that is 0, modulo 1000003.
    private static final String ZERO_ON_THE_WAY = "net points 11;line 0 1;line 0 2;line 0 4;line 0 5;line 0 6;line 0 7;"
        + "line 0 10;line 1 2;line 1 3;line 1 4;line 1 5;line 2 3;line 2 4;line 2 6;line 2 7;line 2 8;line 2 9;"
        + "line 2 10;line 3 8;line 3 9;line 3 10;line 4 5;line 4 7;line 4 8;line 4 10;line 5 6;line 5 8;line 5 9;"
        + "line 5 10;line 6 7;line 7 8;line 7 9;line 7 10;line 8 9;";

    // It has 3958397 trees; on the way a number is left that is 1, modulo 1000003.
    private static final String ONE_ON_THE_WAY = "net points 13;line 0 1;line 0 2;line 1 3;line 0 4;line 1 4;line 2 4;"
        + "line 1 5;line 2 5;line 3 5;line 4 5;line 0 6;line 1 6;line 2 6;line 3 6;line 4 6;line 5 6;line 1 7;line 3 8;"
        + "line 6 8;line 0 9;line 1 9;line 3 9;line 4 9;line 6 9;line 7 9;line 2 10;line 3 10;line 4 11;line 5 11;"
        + "line 4 12;line 7 12;line 9 12;";

    private NetBounds() {
    }

    static void run() {
        overAgainst();
        forks();
        sidesAsNets();
        cubeCuts();
        linePromise();
        betweenPromise();
        besideAndFar();
        waysAndAmid();
        thetaAndTau();
        shellAndPairs();
        coloursAndTrees();
        widthToEven();
        nearerPromise();
        sidePromises();
        cubicPromise();
        hullPromise();
        medianPromises();
    }

    private static void overAgainst() {
        Document.term("II");
        Document.says("Two LINES a b, c d are OVER AGAINST one another, if from a to c and from b to d it is "
            + "together not as far as from a to d and from b to c.");
        int[][] four = {{1, 0, 0, 1}, {0, 1, 1, 0}, {0, 1, 1, 0}, {1, 0, 0, 1}};
        dueTheta("ring 4", Texts.of("ring 4;"), four);
        // Lines 0 1, 0 4, 1 2, 2 3, 3 4: each is over against the two that it does not meet.
        int[][] five = {{1, 0, 0, 1, 1}, {0, 1, 1, 1, 0}, {0, 1, 1, 0, 1}, {1, 1, 0, 1, 0}, {1, 0, 1, 0, 1}};
        dueTheta("ring 5", Texts.of("ring 5;"), five);
        int[][] three = {{1, 1, 1}, {1, 1, 1}, {1, 1, 1}};
        dueTheta("full 3", Texts.of("full 3;"), three);
        int[][] alone = {{1, 0, 0}, {0, 1, 0}, {0, 0, 1}};
        dueTheta("row 4", Texts.of("row 4;"), alone);
        dueTheta("a star", Texts.of(Texts.STAR), alone);
        // Lines 0 1, 0 2, 0 3, 1 2, 1 3, 2 3 of full 4: such as meet, and none else.
        FactorNets full = Texts.of("full 4;");
        Checks.due("theta(0, 5) of full 4", full.theta(0, 5), 0);
        Checks.due("theta(0, 1) of full 4", full.theta(0, 1), 1);
        Checks.due("theta(0, 4) of full 4", full.theta(0, 4), 1);
    }

    private static void dueTheta(String name, FactorNets x, int[][] want) {
        for (int l = 0; l < want.length; l++) {
            for (int m = 0; m < want.length; m++) {
                Checks.due("theta(" + l + ", " + m + ") of " + name, x.theta(l, m), want[l][m]);
            }
        }
    }

    private static void forks() {
        Document.says("They FORK, if they have one POINT in common, and that is the only POINT beside both of their "
            + "other ends.");
        FactorNets row = Texts.of("row 4;");
        Checks.due("tau(0, 1) of row 4", row.tau(0, 1), 1);
        Checks.due("tau(1, 0) of row 4", row.tau(1, 0), 1);
        Checks.due("tau(0, 2) of row 4, without a POINT in common", row.tau(0, 2), 0);
        Checks.due("tau(1, 1) of row 4, with two in common", row.tau(1, 1), 0);
        Checks.due("tau(0, 0) of row 2", Texts.of("row 2;").tau(0, 0), 0);
        FactorNets four = Texts.of("ring 4;");
        Checks.due("tau(0, 1) of ring 4, two POINTS beside both", four.tau(0, 1), 0);
        Checks.due("tau(0, 2) of ring 4", four.tau(0, 2), 0);
        Checks.due("tau(0, 3) of ring 4, over against", four.tau(0, 3), 0);
        Checks.due("tau(0, 1) of ring 5", Texts.of("ring 5;").tau(0, 1), 1);
        Checks.due("tau(0, 3) of ring 5, over against", Texts.of("ring 5;").tau(0, 3), 0);
        Checks.due("tau(0, 1) of full 3, other ends beside one another", Texts.of("full 3;").tau(0, 1), 1);
        Checks.due("tau(0, 1) of full 4", Texts.of("full 4;").tau(0, 1), 0);
        Checks.due("tau(0, 1) of full 20", Texts.of("full 20;").tau(0, 1), 0);
        // Lines 0 1, 0 2, 1 2, 2 3 of the paw: the common POINT may be any end of both.
        FactorNets paw = Texts.of(Texts.PAW);
        Checks.due("tau(0 1, 2 3) of a paw", paw.tau(0, 3), 0);
        Checks.due("tau(0 2, 2 3) of a paw", paw.tau(1, 3), 1);
        Checks.due("tau(2 3, 1 2) of a paw", paw.tau(3, 2), 1);
        Checks.due("tau(0 1, 1 2) of a paw", paw.tau(0, 2), 1);
        FactorNets both = Texts.of(Texts.TWO_BY_THREE);
        Checks.due("tau(0 2, 0 3) of 2 to 3", both.tau(0, 1), 0);
        Checks.due("tau(0 2, 1 2) of 2 to 3", both.tau(0, 3), 0);
    }

    private static void sidesAsNets() {
        Document.term("V");
        Document.says("SIDES: sets of LINES: those that are OVER AGAINST one another, over others too, are in one; "
            + "numbered by their first LINES.");
        FactorNets five = Texts.of("ring 5;");
        Checks.due("theta(0, 1) of ring 5", five.theta(0, 1), 0);
        Checks.due("line(1, 3) of ring 5, over others", five.line(1, 3), 0);
        Checks.due("count(4) of ring 5", five.count(4), 1);
        FactorNets six = Texts.of("ring 6;");
        int[] sides = {0, 1, 2, 1, 0, 2};
        Checks.due("count(4) of ring 6", six.count(4), 3);
        for (int l = 0; l < 6; l++) {
            Checks.due("line(" + l + ", 3) of ring 6", six.line(l, 3), sides[l]);
        }
        Checks.due("count(4) of 2 to 3", Texts.of(Texts.TWO_BY_THREE).count(4), 1);
        Checks.due("count(4) of row 20", Texts.of("row 20;").count(4), 19);
        Checks.due("count(4) of full 20", Texts.of("full 20;").count(4), 1);
        Checks.due("count(4) of one POINT", Texts.of(Texts.POINT).count(4), 0);
        Closure.dueSides();

        Document.says("A SIDE as a net: POINTS of it are the pieces that are left if its LINES go, numbered by their "
            + "least POINTS; LINES between pieces that a LINE of the SIDE joins.");
        // Lines 0 2 and 1 2: without the second one the pieces are 0 2 and 1.
        FactorNets bent = Texts.of("net points 3;line 0 2;line 2 1;");
        int[][] places = {{0, 1, 1}, {0, 1, 0}};
        for (int s = 0; s < 2; s++) {
            for (int p = 0; p < 3; p++) {
                Checks.due("place(" + p + ", " + s + ")", bent.place(p, s), places[s][p]);
            }
        }
        Checks.due("sideFar(1, 0, 2), one piece", bent.sideFar(1, 0, 2), 0);
        Checks.due("sideFar(1, 0, 1)", bent.sideFar(1, 0, 1), 1);
        // Pieces of ring 5 are its POINTS, those of ring 5 by row 2 are rows.
        FactorNets prism = Texts.of("ring 5;row 2;");
        for (int p = 0; p < 10; p++) {
            Checks.due("place(" + p + ", 0) of ring 5 by row 2", prism.place(p, 0), p % 5);
            Checks.due("place(" + p + ", 1) of ring 5 by row 2", prism.place(p, 1), p / 5);
        }
        Checks.due("sideFar(0, 1, 8) of ring 5 by row 2", prism.sideFar(0, 1, 8), 2);
        Checks.due("sideFar(0, 4, 5) of ring 5 by row 2", prism.sideFar(0, 4, 5), 1);
        Checks.due("sideFar(0, 3, 8) of ring 5 by row 2", prism.sideFar(0, 3, 8), 0);
    }

    private static void cubeCuts() {
        Document.says("CUBE CUT: each SIDE has two POINTS, the NET is even.");
        Checks.due("cubic() of 2 to 3, even", Texts.of(Texts.TWO_BY_THREE).cubic(), 0);
        Checks.due("even() of 2 to 3", Texts.of(Texts.TWO_BY_THREE).even(), 1);
        Checks.due("cubic() of ring 3", Texts.of("ring 3;").cubic(), 0);
        Checks.due("cubic() of a paw", Texts.of(Texts.PAW).cubic(), 0);
        Checks.due("cubic() of a cube less one", Texts.of(CUBE_LESS_ONE).cubic(), 1);
        Checks.due("cubic() of one POINT, without SIDES", Texts.of(Texts.POINT).cubic(), 1);
    }

    private static void linePromise() {
        Document.promise(7);
        Document.says("Of a LINE, what 0: its lesser POINT, 1: the other one, 2: its PART, 3: its SIDE.");
        FactorNets full = Texts.of("full 20;");
        int[][] ends = {{0, 0, 1}, {18, 0, 19}, {19, 1, 2}, {189, 18, 19}};
        for (int[] end : ends) {
            Checks.due("line(" + end[0] + ", 0) of full 20", full.line(end[0], 0), end[1]);
            Checks.due("line(" + end[0] + ", 1) of full 20", full.line(end[0], 1), end[2]);
            Checks.due("line(" + end[0] + ", 2) of full 20", full.line(end[0], 2), 0);
            Checks.due("line(" + end[0] + ", 3) of full 20", full.line(end[0], 3), 0);
        }
        FactorNets grid = Texts.of("row 3;row 2;");
        int[] parts = {0, 1, 0, 1, 1, 0, 0};
        int[] sides = {0, 1, 2, 1, 1, 0, 2};
        for (int l = 0; l < 7; l++) {
            Checks.due("line(" + l + ", 2)", grid.line(l, 2), parts[l]);
            Checks.due("line(" + l + ", 3)", grid.line(l, 3), sides[l]);
        }

        Document.says("-2: there are none such.");
        for (int what = 0; what < 4; what++) {
            int fixed = what;
            Beyond.dueBoth("line(?, " + what + ")", 7, l -> grid.line(l, fixed), -2);
        }
        Beyond.dueBoth("line(0, ?)", 4, what -> grid.line(0, what), -2);
        Beyond.dueBoth("line(6, ?)", 4, what -> grid.line(6, what), -2);
        Beyond.dueFrom("line(?, 0) of full 20", 190, l -> full.line(l, 0), -2);
        Checks.due("line(7, 4)", grid.line(7, 4), -2);
        FactorNets point = Texts.of(Texts.POINT);
        Beyond.dueBoth("line(?, 0) of one POINT", 0, l -> point.line(l, 0), -2);
        Checks.due("line(0, 0) of none", new FactorNets().line(0, 0), -2);
    }

    private static void betweenPromise() {
        Document.promise(8);
        Document.says("The LINE between two POINTS.");
        FactorNets ring = Texts.of("ring 20;");
        Checks.due("between(0, 1)", ring.between(0, 1), 0);
        Checks.due("between(1, 0)", ring.between(1, 0), 0);
        Checks.due("between(19, 0)", ring.between(19, 0), 1);
        Checks.due("between(18, 19)", ring.between(18, 19), 19);

        Document.says("NONE: there is none;");
        Checks.due("between(0, 10)", ring.between(0, 10), -1);
        Checks.due("between(0, 2)", ring.between(0, 2), -1);
        Checks.due("between(0, 0)", ring.between(0, 0), -1);
        Checks.due("between(19, 19)", ring.between(19, 19), -1);
        Checks.due("between(0, 0) of one POINT", Texts.of(Texts.POINT).between(0, 0), -1);

        Document.says("-2: there are no such POINTS (so below).");
        duePairs("between", ring, ring::between);
        Checks.due("between(20, 20)", ring.between(20, 20), -2);
        Checks.due("between(-1, -1)", ring.between(-1, -1), -2);
        FactorNets point = Texts.of(Texts.POINT);
        Checks.due("between(0, 1) of one POINT", point.between(0, 1), -2);
        Checks.due("between(0, 0) of none", new FactorNets().between(0, 0), -2);
    }

    private interface Pair {
        long of(int point, int other);
    }

    private static void duePairs(String name, FactorNets x, Pair pair) {
        int n = x.count(0);
        Beyond.dueBoth(name + "(?, 0)", n, p -> pair.of(p, 0), -2);
        Beyond.dueBoth(name + "(0, ?)", n, p -> pair.of(0, p), -2);
    }

    private static void besideAndFar() {
        Document.promise(9);
        Document.says("POINTS beside one, as bits.");
        FactorNets full = Texts.of("full 20;");
        FactorNets row = Texts.of("row 20;");
        FactorNets point = Texts.of(Texts.POINT);
        Checks.due("beside(0) of full 20", full.beside(0), ALL_20 - 1);
        Checks.due("beside(19) of full 20", full.beside(19), ALL_20 >> 1);
        Checks.due("beside(0) of row 20", row.beside(0), 2);
        Checks.due("beside(19) of row 20", row.beside(19), 1 << 18);
        Checks.due("beside(0) of one POINT", point.beside(0), 0);
        Document.says("-2.");
        Beyond.dueBoth("beside of row 20", 20, row::beside, -2);
        Beyond.dueBoth("beside of one POINT", 1, point::beside, -2);
        Checks.due("beside(0) of none", new FactorNets().beside(0), -2);

        Document.promise(10);
        Document.says("How far two are apart.");
        Checks.due("far(0, 19) of row 20", row.far(0, 19), 19);
        Checks.due("far(19, 0) of row 20", row.far(19, 0), 19);
        Checks.due("far(7, 7) of row 20", row.far(7, 7), 0);
        Checks.due("far(0, 19) of full 20", full.far(0, 19), 1);
        Checks.due("far(0, 0) of one POINT", point.far(0, 0), 0);
        FactorNets ring = Texts.of("ring 19;");
        Checks.due("far(0, 9) of ring 19", ring.far(0, 9), 9);
        Checks.due("far(0, 10) of ring 19", ring.far(0, 10), 9);
        Document.says("-2.");
        duePairs("far", row, row::far);
        Checks.due("far(20, 20)", row.far(20, 20), -2);
        Checks.due("far(0, 1) of one POINT", point.far(0, 1), -2);
        Checks.due("far(0, 0) of none", new FactorNets().far(0, 0), -2);
    }

    // One point, six rows of three, one point: each is beside all of the next row.
    private static String sixRowsOfThree() {
        StringBuilder b = new StringBuilder("net points 20;");
        for (int p = 1; p < 4; p++) {
            b.append("line0 ").append(p).append(';').append("line19 ").append(19 - p).append(';');
        }
        for (int p = 1; p < 16; p++) {
            int next = (p - 1) / 3 * 3 + 4;
            for (int q = next; q < next + 3; q++) {
                b.append("line").append(p).append(' ').append(q).append(';');
            }
        }
        return b.toString();
    }

    private static void waysAndAmid() {
        Document.promise(11);
        Document.says("How many shortest ways lead from one to another one.");
        FactorNets rows = Texts.of(sixRowsOfThree());
        FactorNets point = Texts.of(Texts.POINT);
        Checks.due("ways(0, 19) by six rows of three", rows.ways(0, 19), 729);
        Checks.due("ways(19, 0) by six rows of three", rows.ways(19, 0), 729);
        Checks.due("ways(0, 0)", rows.ways(0, 0), 1);
        Checks.due("ways(0, 1)", rows.ways(0, 1), 1);
        Checks.due("ways(1, 2), by 0 and the next row", rows.ways(1, 2), 4);
        Checks.due("ways(0, 0) of one POINT", point.ways(0, 0), 1);
        Checks.due("ways(0, 3) of ring 6", Texts.of("ring 6;").ways(0, 3), 2);
        Checks.due("ways(0, 3) of ring 7", Texts.of("ring 7;").ways(0, 3), 1);
        Checks.due("ways(0, 19) of row 20", Texts.of("row 20;").ways(0, 19), 1);
        Document.says("-2.");
        duePairs("ways", rows, rows::ways);
        Checks.due("ways(20, 20)", rows.ways(20, 20), -2);
        Checks.due("ways(0, 0) of none", new FactorNets().ways(0, 0), -2);

        Document.promise(12);
        Document.says("POINTS that lie on one of these (both, too), as bits.");
        Checks.due("amid(0, 19) by six rows of three", rows.amid(0, 19), ALL_20);
        Checks.due("amid(1, 2)", rows.amid(1, 2), 1 | 1 << 1 | 1 << 2 | 7 << 4);
        Checks.due("amid(0, 4)", rows.amid(0, 4), 0b11111);
        Checks.due("amid(19, 19)", rows.amid(19, 19), 1 << 19);
        Checks.due("amid(0, 1)", rows.amid(0, 1), 0b11);
        Checks.due("amid(1, 0)", rows.amid(1, 0), 0b11);
        Checks.due("amid(0, 0) of one POINT", point.amid(0, 0), 1);
        Checks.due("amid(0, 3) of ring 6", Texts.of("ring 6;").amid(0, 3), 0b111111);
        Checks.due("amid(0, 3) of ring 7", Texts.of("ring 7;").amid(0, 3), 0b0001111);
        Document.says("-2.");
        duePairs("amid", rows, rows::amid);
        Checks.due("amid(20, 20)", rows.amid(20, 20), -2);
        Checks.due("amid(0, 0) of none", new FactorNets().amid(0, 0), -2);
    }

    private static void thetaAndTau() {
        FactorNets ring = Texts.of("ring 6;");
        FactorNets full = Texts.of("full 20;");
        FactorNets point = Texts.of(Texts.POINT);
        Document.promise(13);
        Document.says("1 if two LINES are OVER AGAINST one another (II; a LINE and itself are), else 0.");
        for (int l = 0; l < 6; l++) {
            Checks.due("theta(" + l + ", " + l + ") of ring 6", ring.theta(l, l), 1);
        }
        Checks.due("theta(0, 4) of ring 6", ring.theta(0, 4), 1);
        Checks.due("theta(4, 0) of ring 6", ring.theta(4, 0), 1);
        Checks.due("theta(0, 3) of ring 6", ring.theta(0, 3), 0);
        Checks.due("theta(189, 189) of full 20", full.theta(189, 189), 1);
        Checks.due("theta(0, 189) of full 20", full.theta(0, 189), 0);
        Checks.due("theta(0, 0) of row 2", Texts.of("row 2;").theta(0, 0), 1);
        Document.says("-2: there are none such.");
        Beyond.dueBoth("theta(?, 0)", 6, l -> ring.theta(l, 0), -2);
        Beyond.dueBoth("theta(0, ?)", 6, l -> ring.theta(0, l), -2);
        Beyond.dueFrom("theta(?, ?) of full 20", 190, l -> full.theta(l, l), -2);
        Checks.due("theta(6, 6), itself", ring.theta(6, 6), -2);
        Checks.due("theta(0, 0) of one POINT", point.theta(0, 0), -2);
        Checks.due("theta(0, 0) of none", new FactorNets().theta(0, 0), -2);

        Document.promise(14);
        Document.says("1 if two LINES FORK (II), else 0.");
        Checks.due("tau(0, 1) of ring 6", ring.tau(0, 1), 1);
        Checks.due("tau(0, 4) of ring 6", ring.tau(0, 4), 0);
        Checks.due("tau(0, 0) of ring 6", ring.tau(0, 0), 0);
        Checks.due("tau(189, 188) of full 20", full.tau(189, 188), 0);
        Document.says("-2 likewise.");
        Beyond.dueBoth("tau(?, 0)", 6, l -> ring.tau(l, 0), -2);
        Beyond.dueBoth("tau(0, ?)", 6, l -> ring.tau(0, l), -2);
        Beyond.dueFrom("tau(?, ?) of full 20", 190, l -> full.tau(l, l), -2);
        Checks.due("tau(6, 6), itself", ring.tau(6, 6), -2);
        Checks.due("tau(0, 0) of one POINT", point.tau(0, 0), -2);
        Checks.due("tau(0, 0) of none", new FactorNets().tau(0, 0), -2);
    }

    private static void shellAndPairs() {
        FactorNets row = Texts.of("row 20;");
        FactorNets full = Texts.of("full 20;");
        FactorNets point = Texts.of(Texts.POINT);
        FactorNets none = new FactorNets();
        Document.promise(34);
        Document.says("POINTS just so far from one, as bits.");
        for (int d = 0; d < 20; d++) {
            Checks.due("shell(0, " + d + ") of row 20", row.shell(0, d), 1 << d);
        }
        Checks.due("shell(10, 9) of row 20", row.shell(10, 9), 1 << 1 | 1 << 19);
        Checks.due("shell(10, 10) of row 20", row.shell(10, 10), 1);
        Checks.due("shell(10, 11) of row 20", row.shell(10, 11), 0);
        Beyond.dueFrom("shell(0, ?) of row 20", 20, d -> row.shell(0, d), 0);
        Checks.due("shell(3, 1) of full 20", full.shell(3, 1), ALL_20 & ~(1 << 3));
        Beyond.dueFrom("shell(3, ?) of full 20", 2, d -> full.shell(3, d), 0);
        Checks.due("shell(0, 0) of one POINT", point.shell(0, 0), 1);
        Beyond.dueFrom("shell(0, ?) of one POINT", 1, d -> point.shell(0, d), 0);
        Document.says("-2 (d below 0, too).");
        Beyond.dueBoth("shell(?, 0)", 20, p -> row.shell(p, 0), -2);
        Beyond.dueBoth("shell(?, 25)", 20, p -> row.shell(p, 25), -2);
        Beyond.dueBelow("shell(0, ?)", d -> row.shell(0, d), -2);
        Checks.due("shell(20, -1)", row.shell(20, -1), -2);
        Checks.due("shell(0, 0) of none", none.shell(0, 0), -2);

        Document.promise(35);
        Document.says("How many pairs of unlike POINTS are just so far apart.");
        for (int d = 1; d < 20; d++) {
            Checks.due("pairs(" + d + ") of row 20", row.pairs(d), 20 - d);
        }
        Checks.due("pairs(0) of row 20, none unlike", row.pairs(0), 0);
        Beyond.dueFrom("pairs of row 20", 20, row::pairs, 0);
        Checks.due("pairs(1) of full 20", full.pairs(1), 190);
        Beyond.dueFrom("pairs of full 20", 2, full::pairs, 0);
        Beyond.dueFrom("pairs of one POINT", 0, point::pairs, 0);
        Document.says("-2: there is no NET, d is below 0.");
        Beyond.dueBelow("pairs", row::pairs, -2);
        Beyond.dueBelow("pairs of one POINT", point::pairs, -2);
        Beyond.dueBoth("pairs of none", 0, none::pairs, -2);
    }

    private static void coloursAndTrees() {
        FactorNets none = new FactorNets();
        Document.promise(36);
        Document.says("The fewest COLOURS so that no LINE is between POINTS of one.");
        Checks.due("colours() of one POINT", Texts.of(Texts.POINT).colours(), 1);
        for (int n = 2; n <= 20; n++) {
            Checks.due("colours() of row " + n, Texts.of("row " + n + ";").colours(), 2);
            Checks.due("colours() of full " + n, Texts.of("full " + n + ";").colours(), n);
            if (n > 2) {
                Checks.due("colours() of ring " + n, Texts.of("ring " + n + ";").colours(), n % 2 == 0 ? 2 : 3);
            }
        }
        FactorNets almost = Texts.of("full 20;");
        almost.cut(0);
        Checks.due("colours() of full 20 less a LINE", almost.colours(), 19);
        Checks.due("colours() of ring 5 by full 4", Texts.of("ring 5;full 4;").colours(), 4);
        Checks.due("colours() of 2 to 3", Texts.of(Texts.TWO_BY_THREE).colours(), 2);
        Document.says("-2: there is no NET.");
        Checks.due("colours() of none", none.colours(), -2);

        Document.promise(38);
        Document.says("How many sets of LINES there are by each of which one comes from each POINT to each just "
            + "one way, modulo 1000003.");
        Checks.due("trees() of one POINT", Texts.of(Texts.POINT).trees(), 1);
        for (int n = 2; n <= 20; n++) {
            long cayley = 1;
            for (int i = 0; i < n - 2; i++) {
                cayley = cayley * n % 1000003;
            }
            Checks.due("trees() of row " + n, Texts.of("row " + n + ";").trees(), 1);
            Checks.due("trees() of full " + n, Texts.of("full " + n + ";").trees(), cayley);
            if (n > 2) {
                Checks.due("trees() of ring " + n, Texts.of("ring " + n + ";").trees(), n);
            }
        }
        Checks.due("trees() that are twice 1000003", Texts.of(NO_TREES_LEFT).trees(), 0);
        Checks.due("trees() with a zero on the way", Texts.of(ZERO_ON_THE_WAY).trees(), 238914);
        Checks.due("trees() with a one on the way", Texts.of(ONE_ON_THE_WAY).trees(), 958388);
        Document.says("-2: there is no NET.");
        Checks.due("trees() of none", none.trees(), -2);
    }

    private static void widthToEven() {
        FactorNets row = Texts.of("row 20;");
        FactorNets full = Texts.of("full 20;");
        FactorNets point = Texts.of(Texts.POINT);
        FactorNets none = new FactorNets();
        Document.promise(39);
        Document.says("The greatest distance of any two.");
        Checks.due("width() of row 20", row.width(), 19);
        Checks.due("width() of full 20", full.width(), 1);
        Checks.due("width() of one POINT", point.width(), 0);
        Checks.due("width() of ring 19", Texts.of("ring 19;").width(), 9);
        Checks.due("width(), not of POINT 0", Texts.of("net points 3;line 0 1;line 0 2;").width(), 2);
        Document.says("-2: there is no NET.");
        Checks.due("width() of none", none.width(), -2);

        Document.promise(40);
        Document.says("Distances of all pairs together.");
        Checks.due("wiener() of row 20", row.wiener(), 1330);
        Checks.due("wiener() of full 20", full.wiener(), 190);
        Checks.due("wiener() of one POINT", point.wiener(), 0);
        Checks.due("wiener() of row 2", Texts.of("row 2;").wiener(), 1);
        Document.says("-2 likewise.");
        Checks.due("wiener() of none", none.wiener(), -2);

        Document.promise(41);
        Document.says("POINTS from which the farthest one is nearest, as bits.");
        Checks.due("centre() of row 20", row.centre(), 3 << 9);
        Checks.due("centre() of row 19", Texts.of("row 19;").centre(), 1 << 9);
        Checks.due("centre() of full 20", full.centre(), ALL_20);
        Checks.due("centre() of one POINT", point.centre(), 1);
        Checks.due("centre() of a paw", Texts.of(Texts.PAW).centre(), 0b0100);
        Document.says("-2 likewise.");
        Checks.due("centre() of none", none.centre(), -2);

        Document.promise(42);
        Document.says("1 if the NET has two COLOURS (no LINE between POINTS of one), else 0.");
        Checks.due("even() of one POINT", point.even(), 1);
        Checks.due("even() of row 2", Texts.of("row 2;").even(), 1);
        Checks.due("even() of full 20", full.even(), 0);
        for (int n = 3; n <= 20; n++) {
            Checks.due("even() of ring " + n, Texts.of("ring " + n + ";").even(), 1 - n % 2);
        }
        Checks.due("even() of a paw", Texts.of(Texts.PAW).even(), 0);
        Checks.due("even(), odd far from POINT 0", Texts.of("row 17;line 16 14;").even(), 0);
        Document.says("-2 likewise.");
        Checks.due("even() of none", none.even(), -2);
    }

    private static void nearerPromise() {
        Document.promise(43);
        Document.says("POINTS that lie nearer to the first end of a LINE (what 0: the lesser) than to the other, "
            + "1: nearer to the other, 2: as far from both, as bits.");
        FactorNets full = Texts.of("full 20;");
        Checks.due("nearer(189, 0) of full 20", full.nearer(189, 0), 1 << 18);
        Checks.due("nearer(189, 1) of full 20", full.nearer(189, 1), 1 << 19);
        Checks.due("nearer(189, 2) of full 20", full.nearer(189, 2), ALL_20 >> 2);
        FactorNets row = Texts.of("row 20;");
        for (int l = 0; l < 19; l++) {
            int low = (2 << l) - 1;
            Checks.due("nearer(" + l + ", 0) of row 20", row.nearer(l, 0), low);
            Checks.due("nearer(" + l + ", 1) of row 20", row.nearer(l, 1), ALL_20 & ~low);
            Checks.due("nearer(" + l + ", 2) of row 20", row.nearer(l, 2), 0);
        }
        // The LINE 0 4 of ring 5: POINT 2 is as far from both.
        FactorNets ring = Texts.of("ring 5;");
        Checks.due("nearer(1, 0) of ring 5", ring.nearer(1, 0), 0b00011);
        Checks.due("nearer(1, 1) of ring 5", ring.nearer(1, 1), 0b11000);
        Checks.due("nearer(1, 2) of ring 5", ring.nearer(1, 2), 0b00100);
        Document.says("-2: there are none such.");
        Beyond.dueBoth("nearer(?, 0)", 5, l -> ring.nearer(l, 0), -2);
        Beyond.dueBoth("nearer(?, 2)", 5, l -> ring.nearer(l, 2), -2);
        Beyond.dueBoth("nearer(0, ?)", 3, what -> ring.nearer(0, what), -2);
        Checks.due("nearer(190, 0) of full 20", full.nearer(190, 0), -2);
        Checks.due("nearer(0, 0) of one POINT", Texts.of(Texts.POINT).nearer(0, 0), -2);
        Checks.due("nearer(0, 0) of none", new FactorNets().nearer(0, 0), -2);
    }

    private static void sidePromises() {
        FactorNets grid = Texts.of("row 3;row 2;");
        FactorNets row = Texts.of("row 20;");
        FactorNets full = Texts.of("full 20;");
        FactorNets point = Texts.of(Texts.POINT);
        FactorNets none = new FactorNets();
        Document.promise(44);
        Document.says("How many POINTS a SIDE has (V).");
        Checks.due("quotient(0) of row 2", Texts.of("row 2;").quotient(0), 2);
        Checks.due("quotient(18) of row 20", row.quotient(18), 2);
        Checks.due("quotient(0) of full 20", full.quotient(0), 20);
        Checks.due("quotient(2)", grid.quotient(2), 2);
        Checks.due("quotient(0) of 2 to 3", Texts.of(Texts.TWO_BY_THREE).quotient(0), 5);
        Document.says("-2: there is none such.");
        Beyond.dueBoth("quotient", 3, grid::quotient, -2);
        Beyond.dueFrom("quotient of row 20", 19, row::quotient, -2);
        Beyond.dueBoth("quotient of one POINT", 0, point::quotient, -2);
        Checks.due("quotient(0) of none", none.quotient(0), -2);

        Document.promise(45);
        Document.says("The number of a POINT in a SIDE.");
        for (int p = 0; p < 20; p++) {
            Checks.due("place(" + p + ", 0) of full 20", full.place(p, 0), p);
            Checks.due("place(" + p + ", 0) of row 20", row.place(p, 0), p == 0 ? 0 : 1);
            Checks.due("place(" + p + ", 18) of row 20", row.place(p, 18), p == 19 ? 1 : 0);
        }
        Document.says("-2: there are none such.");
        Beyond.dueBoth("place(?, 0)", 6, p -> grid.place(p, 0), -2);
        Beyond.dueBoth("place(0, ?)", 3, s -> grid.place(0, s), -2);
        Checks.due("place(6, 3)", grid.place(6, 3), -2);
        Checks.due("place(0, 0) of one POINT", point.place(0, 0), -2);
        Checks.due("place(0, 0) of none", none.place(0, 0), -2);

        Document.promise(46);
        Document.says("How far two POINTS are apart in a SIDE.");
        Checks.due("sideFar(0, 0, 5)", grid.sideFar(0, 0, 5), 1);
        Checks.due("sideFar(2, 0, 5)", grid.sideFar(2, 0, 5), 1);
        Checks.due("sideFar(2, 0, 4)", grid.sideFar(2, 0, 4), 0);
        Checks.due("sideFar(0, 5, 5)", grid.sideFar(0, 5, 5), 0);
        Checks.due("sideFar(0, 0, 19) of full 20", full.sideFar(0, 0, 19), 1);
        Checks.due("sideFar(0, 0, 9) of ring 19", Texts.of("ring 19;").sideFar(0, 0, 9), 9);
        Checks.due("sideFar(0, 9, 0) of ring 19", Texts.of("ring 19;").sideFar(0, 9, 0), 9);
        Checks.due("sideFar(0, 2, 4) of 2 to 3", Texts.of(Texts.TWO_BY_THREE).sideFar(0, 2, 4), 2);
        Document.says("-2: there are none such.");
        Beyond.dueBoth("sideFar(?, 0, 0)", 3, s -> grid.sideFar(s, 0, 0), -2);
        Beyond.dueBoth("sideFar(0, ?, 0)", 6, p -> grid.sideFar(0, p, 0), -2);
        Beyond.dueBoth("sideFar(0, 0, ?)", 6, p -> grid.sideFar(0, 0, p), -2);
        Checks.due("sideFar(0, 6, 6)", grid.sideFar(0, 6, 6), -2);
        Checks.due("sideFar(0, 0, 0) of one POINT", point.sideFar(0, 0, 0), -2);
        Checks.due("sideFar(0, 0, 0) of none", none.sideFar(0, 0, 0), -2);
    }

    private static void cubicPromise() {
        Document.promise(47);
        Document.says("1 if the NET is a CUBE CUT (V), else 0.");
        Checks.due("cubic() of one POINT", Texts.of(Texts.POINT).cubic(), 1);
        Checks.due("cubic() of row 2", Texts.of("row 2;").cubic(), 1);
        Checks.due("cubic() of row 20", Texts.of("row 20;").cubic(), 1);
        Checks.due("cubic() of a cube", Texts.of("row 2;row 2;row 2;row 2;").cubic(), 1);
        Checks.due("cubic() of row 4 by row 5", Texts.of("row 4;row 5;").cubic(), 1);
        for (int n = 3; n <= 20; n++) {
            Checks.due("cubic() of ring " + n, Texts.of("ring " + n + ";").cubic(), 1 - n % 2);
        }
        Checks.due("cubic() of full 20", Texts.of("full 20;").cubic(), 0);
        // Its last SIDE alone has more than two POINTS.
        Checks.due("cubic() of a tail and 2 to 3", Texts.of("net points 6;line 0 1;line 1 3;line 1 4;line 1 5;"
            + "line 2 3;line 2 4;line 2 5;").cubic(), 0);
        Document.says("-2: there is no NET.");
        Checks.due("cubic() of none", new FactorNets().cubic(), -2);
    }

    private static void hullPromise() {
        Document.promise(48);
        Document.says("The least set of POINTS that has some (bits), and with any two all that lie AMID them, "
            + "as bits.");
        FactorNets row = Texts.of("row 20;");
        FactorNets full = Texts.of("full 20;");
        FactorNets cube = Texts.of("row 2;row 2;row 2;row 2;");
        FactorNets point = Texts.of(Texts.POINT);
        for (int p = 0; p < 20; p++) {
            Checks.due("hull of POINT " + p + " alone", row.hull(1 << p), 1 << p);
        }
        Checks.due("hull of both ends of row 20", row.hull(1 << 19 | 1), ALL_20);
        Checks.due("hull of all of row 20", row.hull(ALL_20), ALL_20);
        Checks.due("hull of 3, 7", row.hull(1 << 3 | 1 << 7), 0b11111000);
        Checks.due("hull of 0, 1, 3", row.hull(0b1011), 0b1111);
        Checks.due("hull of every other one of full 20", full.hull(0x55555), 0x55555);
        Checks.due("hull in two rounds", cube.hull(1 | 1 << 3 | 1 << 12), 0xFFFF);
        Checks.due("hull of a face", cube.hull(1 | 1 << 3), 0b1111);
        Checks.due("hull(1) of one POINT", point.hull(1), 1);
        Checks.due("hull of 0, 2 of ring 5", Texts.of("ring 5;").hull(0b00101), 0b00111);
        Checks.due("hull of 0, 3 of ring 6", Texts.of("ring 6;").hull(0b001001), 0b111111);
        // 2 and 3 have 0 and 1 amid them, and those all the rest.
        Checks.due("hull of 2, 3 of 2 to 3", Texts.of(Texts.TWO_BY_THREE).hull(0b01100), 0b11111);

        Document.says("-2: there are none such, 0.");
        Checks.due("hull(0)", row.hull(0), -2);
        Checks.due("hull(0) of one POINT", point.hull(0), -2);
        for (int bit = 20; bit < 32; bit++) {
            Checks.due("hull of bit " + bit, row.hull(1 << bit), -2);
            Checks.due("hull of bits 0 and " + bit, row.hull(1 | 1 << bit), -2);
            Checks.due("hull of all and bit " + bit, row.hull(ALL_20 | 1 << bit), -2);
        }
        for (int bit = 1; bit < 32; bit++) {
            Checks.due("hull of bit " + bit + " of one POINT", point.hull(1 << bit), -2);
        }
        Checks.due("hull(-1)", row.hull(-1), -2);
        Checks.due("hull of bit 16 of 16", cube.hull(1 << 16), -2);
        Checks.due("hull(1) of none", new FactorNets().hull(1), -2);
        Checks.due("hull(0) of none", new FactorNets().hull(0), -2);
    }

    private static void medianPromises() {
        FactorNets grid = Texts.of("row 3;row 2;");
        FactorNets both = Texts.of(Texts.TWO_BY_THREE);
        FactorNets point = Texts.of(Texts.POINT);
        FactorNets none = new FactorNets();
        Document.promise(49);
        Document.says("POINTS that lie AMID each two of three, as bits.");
        Checks.due("median(0, 2, 4)", grid.median(0, 2, 4), 0b000010);
        Checks.due("median(4, 0, 2)", grid.median(4, 0, 2), 0b000010);
        Checks.due("median(5, 5, 5)", grid.median(5, 5, 5), 0b100000);
        Checks.due("median(0, 5, 0)", grid.median(0, 5, 0), 0b000001);
        Checks.due("median(5, 0, 0)", grid.median(5, 0, 0), 0b000001);
        Checks.due("median(0, 0, 5)", grid.median(0, 0, 5), 0b000001);
        Checks.due("median(2, 3, 4) of 2 to 3, two of them", both.median(2, 3, 4), 0b00011);
        Checks.due("median(0, 2, 4) of ring 6, none", Texts.of("ring 6;").median(0, 2, 4), 0);
        Checks.due("median(0, 1, 2) of full 3, none", Texts.of("full 3;").median(0, 1, 2), 0);
        Checks.due("median(0, 0, 0) of one POINT", point.median(0, 0, 0), 1);
        Checks.due("median(0, 19, 10) of row 20", Texts.of("row 20;").median(0, 19, 10), 1 << 10);
        Document.says("-2.");
        Beyond.dueBoth("median(?, 0, 0)", 6, p -> grid.median(p, 0, 0), -2);
        Beyond.dueBoth("median(0, ?, 0)", 6, p -> grid.median(0, p, 0), -2);
        Beyond.dueBoth("median(0, 0, ?)", 6, p -> grid.median(0, 0, p), -2);
        Checks.due("median(0, 0, 0) of none", none.median(0, 0, 0), -2);

        Document.promise(50);
        Document.says("1 if median() of any three is one POINT, else 0.");
        Checks.due("medians() of one POINT", point.medians(), 1);
        Checks.due("medians() of row 2", Texts.of("row 2;").medians(), 1);
        Checks.due("medians() of row 20", Texts.of("row 20;").medians(), 1);
        Checks.due("medians() of ring 4", Texts.of("ring 4;").medians(), 1);
        Checks.due("medians() of a cube", Texts.of("row 2;row 2;row 2;row 2;").medians(), 1);
        Checks.due("medians() of a cube less one, none for three", Texts.of(CUBE_LESS_ONE).medians(), 0);
        Checks.due("medians() of full 3, none for three", Texts.of("full 3;").medians(), 0);
        Checks.due("medians() of 2 to 3, two for three", both.medians(), 0);
        Checks.due("medians(), wrong for 0, 1, 2 alone", Texts.of("net points 4;line 0 1;line 0 2;line 1 2;line 0 3;")
            .medians(), 0);
        Checks.due("medians(), wrong for the last three alone", Texts.of("row 20;line 17 19;").medians(), 0);
        Document.says("-2: there is no NET.");
        Checks.due("medians() of none", none.medians(), -2);
    }
}
