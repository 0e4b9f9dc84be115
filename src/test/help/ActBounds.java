import java.util.function.Consumer;
import java.util.function.ObjIntConsumer;
import java.util.function.ToIntFunction;

/** Promises 51 to 61: a line less, a line more, acts, images, what is taken back. */
final class ActBounds {
    private static final int MOST_ACTS = 20;

    private ActBounds() {
    }

    static void run() {
        withoutPromise();
        withPromise();
        loosestPromise();
        joinPromise();
        cutPromise();
        timesPromise();
        keepPromise();
        imagePromise();
        backPromise();
        undoPromise();
        anewPromise();
        calls();
    }

    /** A net with 20 acts: the LINE 0 2 of a row of three comes and goes. */
    private static FactorNets weary() {
        FactorNets x = Texts.of("row 3;");
        for (int i = 0; i < MOST_ACTS / 2; i++) {
            x.join(0, 2);
            x.cut(1);
        }
        Checks.due("count(5) of a weary one", x.count(5), MOST_ACTS);
        return x;
    }

    /** A call that is refused, or only asks, leaves all as it was. */
    private static void dueIdle(String call, FactorNets x, Consumer<FactorNets> act) {
        State before = State.of(x);
        act.accept(x);
        before.dueStill(call, x);
    }

    /** What was answered ahead of an act must not be answered behind it. */
    private static void dueAsTold(String call, String text, ToIntFunction<FactorNets> act) {
        dueAsTold(call, text, x -> 0, act);
    }

    private static void dueAsTold(String call, String text, ToIntFunction<FactorNets> ahead,
            ToIntFunction<FactorNets> act) {
        FactorNets x = Texts.of(text);
        Checks.due(call + ", what is done ahead of it", ahead.applyAsInt(x) < 0 ? 1 : 0, 0);
        Answers.of(x);
        Checks.due(call + ", refused", act.applyAsInt(x) < 0 ? 1 : 0, 0);
        Answers.dueAsTold(call, x);
    }

    /** A check of each product of two rows, or two full nets, that has no more than 20 POINTS. */
    private static void dueProducts(ObjIntConsumer<String> check) {
        for (int p = 2; p <= 10; p++) {
            for (int n = 2; n <= 20 / p; n++) {
                // Rows have the fewest LINES, full nets the most.
                check.accept("row " + p + ";row " + n + ";", p * n - 1);
                check.accept("full " + p + ";full " + n + ";", p * n - 1);
            }
        }
    }

    private static void withoutPromise() {
        FactorNets x = Texts.of("row 3;row 2;line 0 5;");
        Document.promise(51);
        Document.says("PARTS there would be, were a LINE not there.");
        Checks.due("without(0 5)", x.without(x.between(0, 5)), 2);
        Checks.due("without(0 3)", x.without(x.between(0, 3)), 1);
        Checks.due("without(0) of ring 4", Texts.of("ring 4;").without(0), 1);
        Checks.due("without(189) of full 20", Texts.of("full 20;").without(189), 1);
        Checks.due("without(4) of ring 5", Texts.of("ring 5;").without(4), 1);
        FactorNets cube = Texts.of("row 2;row 2;row 2;row 2;line 0 15;");
        Checks.due("without(0 15) of a cube and a LINE", cube.without(cube.between(0, 15)), 4);
        dueProducts((text, last) -> {
            FactorNets more = Texts.of(text);
            more.join(0, last);
            Checks.due("without(0 " + last + ") of " + text + " and a LINE", more.without(more.between(0, last)), 2);
        });
        dueIdle("without()", x, y -> y.without(y.between(0, 5)));
        Checks.due("without() at 20 acts", weary().without(0), -1);

        Document.says("NONE: it would not be CONNECTED;");
        Checks.due("without(0) of row 2", Texts.of("row 2;").without(0), -1);
        Checks.due("without(0) of row 20", Texts.of("row 20;").without(0), -1);
        Checks.due("without(18) of row 20", Texts.of("row 20;").without(18), -1);
        Checks.due("without(3) of a paw", Texts.of(Texts.PAW).without(3), -1);
        Checks.due("without(2) of a paw", Texts.of(Texts.PAW).without(2), 1);

        Document.says("-2: there is none such.");
        Beyond.dueBoth("without", 8, x::without, -2);
        Checks.due("without(190) of full 20", Texts.of("full 20;").without(190), -2);
        Checks.due("without(0) of one POINT", Texts.of(Texts.POINT).without(0), -2);
        Checks.due("without(0) of none", new FactorNets().without(0), -2);
    }

    private static void withPromise() {
        FactorNets row = Texts.of("row 4;");
        FactorNets point = Texts.of(Texts.POINT);
        Document.promise(52);
        Document.says("PARTS there would be, were a LINE more between two POINTS.");
        Checks.due("with(0, 3)", row.with(0, 3), 2);
        Checks.due("with(3, 0)", row.with(3, 0), 2);
        Checks.due("with(0, 2)", row.with(0, 2), 1);
        FactorNets cube = Texts.of("row 2;row 2;row 2;row 2;");
        cube.cut(0);
        Checks.due("with(0, 1) of a cube less a LINE", cube.with(0, 1), 4);
        Checks.due("with(0, 19) of row 20", Texts.of("row 20;").with(0, 19), 1);
        dueProducts((text, last) -> {
            FactorNets less = Texts.of(text);
            less.cut(0);
            Checks.due("with(0, 1) of " + text + " less a LINE", less.with(0, 1), 2);
        });
        dueIdle("with()", row, y -> y.with(0, 3));
        Checks.due("with(0, 2) at 20 acts", weary().with(0, 2), 1);

        Document.says("-2; NONE: there is one, they are one.");
        Checks.due("with(0, 1)", row.with(0, 1), -1);
        Checks.due("with(1, 0)", row.with(1, 0), -1);
        Checks.due("with(3, 3)", row.with(3, 3), -1);
        Checks.due("with(0, 0) of one POINT", point.with(0, 0), -1);
        Checks.due("with(0, 19) of full 20", Texts.of("full 20;").with(0, 19), -1);
        Beyond.dueBoth("with(?, 0)", 4, p -> row.with(p, 0), -2);
        Beyond.dueBoth("with(0, ?)", 4, p -> row.with(0, p), -2);
        Beyond.dueBoth("with(?, ?), they are one", 4, p -> row.with(p, p), -2);
        Checks.due("with(0, 1) of one POINT", point.with(0, 1), -2);
        Checks.due("with(0, 0) of none", new FactorNets().with(0, 0), -2);
    }

    private static void loosestPromise() {
        Document.promise(53);
        Document.says("The least LINE without which there would be most PARTS (of those that may go).");
        Checks.due("loosest() of full 20, all alike", Texts.of("full 20;").loosest(), 0);
        Checks.due("loosest() of ring 20", Texts.of("ring 20;").loosest(), 0);
        // LINE 0 may not go.
        FactorNets tail = Texts.of("net points 4;line 0 1;line 1 2;line 2 3;line 3 1;");
        Checks.due("loosest() behind a tail", tail.loosest(), 1);
        FactorNets cube = Texts.of("row 2;row 2;row 2;row 2;line 0 15;");
        Checks.due("loosest() of a cube and a LINE", cube.loosest(), cube.between(0, 15));
        // Without the LINE 0 5, or 0 1, the net is a grid: of those the least.
        Checks.due("loosest() of two that leave two PARTS", Texts.of("row 3;row 2;line 0 5;").loosest(), 0);
        FactorNets late = Texts.of("row 5;row 4;line 14 18;");
        Checks.due("loosest() of a late LINE", late.loosest(), late.between(14, 18));
        dueProducts((text, last) -> {
            FactorNets more = Texts.of(text);
            more.join(0, last);
            Checks.due("PARTS without loosest() of " + text + " and a LINE", more.without(more.loosest()), 2);
        });
        dueIdle("loosest()", cube, FactorNets::loosest);
        cube.cut(cube.between(0, 15));
        Checks.due("loosest() behind an act", cube.loosest(), 0);

        Document.says("NONE: none may go; -2: there is no NET.");
        Checks.due("loosest() of row 20", Texts.of("row 20;").loosest(), -1);
        Checks.due("loosest() of row 2", Texts.of("row 2;").loosest(), -1);
        Checks.due("loosest() of a star", Texts.of(Texts.STAR).loosest(), -1);
        Checks.due("loosest() of one POINT", Texts.of(Texts.POINT).loosest(), -1);
        Checks.due("loosest() of none", new FactorNets().loosest(), -2);
    }

    private static void joinPromise() {
        Document.promise(54);
        Document.says("An act: a LINE more between two POINTS: how many LINES.");
        FactorNets x = Texts.of("row 4;");
        Checks.due("join(3, 0)", x.join(3, 0), 4);
        Checks.due("count(5)", x.count(5), 1);
        Checks.due("between(0, 3)", x.between(0, 3), 1);
        Checks.due("count(3)", x.count(3), 2);
        FactorNets almost = Texts.of("full 20;");
        almost.cut(189);
        Checks.due("join(19, 18), the last LINE", almost.join(19, 18), 190);
        dueAsTold("join()", "row 5;row 2;", y -> y.join(0, 9));

        Document.says("-2; -5: there is one, they are one, there were 20 acts.");
        dueIdle("join() of a LINE", x, y -> Checks.due("join(0, 3)", y.join(0, 3), -5));
        dueIdle("join() of a LINE", x, y -> Checks.due("join(1, 0)", y.join(1, 0), -5));
        dueIdle("join() of one", x, y -> Checks.due("join(2, 2)", y.join(2, 2), -5));
        Checks.due("undo() behind refused ones", x.undo(), 0);
        Checks.due("join(0, 0) of one POINT", Texts.of(Texts.POINT).join(0, 0), -5);
        Checks.due("join(0, 1) of full 20", Texts.of("full 20;").join(0, 1), -5);
        FactorNets weary = weary();
        dueIdle("join() at 20", weary, y -> Checks.due("join(0, 2) at 20", y.join(0, 2), -5));
        Checks.due("join(0, 3) at 20", weary.join(0, 3), -2);
        weary.undo();
        weary.undo();
        Checks.due("join(0, 2) at 18", weary.join(0, 2), 3);
        Checks.due("count(5)", weary.count(5), 19);
        Checks.due("join(0, 2) at 19, there", weary.join(0, 2), -5);
        FactorNets y = Texts.of("row 4;");
        Beyond.dueBoth("join(?, 0)", 4, p -> y.join(p, 0), -2);
        Beyond.dueBoth("join(0, ?)", 4, p -> y.join(0, p), -2);
        Beyond.dueBoth("join(?, ?), they are one", 4, p -> y.join(p, p), -2);
        Checks.due("count(5) behind refused ones", y.count(5), 0);
        Checks.due("count(1) behind refused ones", y.count(1), 3);
        Checks.due("join(0, 1) of none", new FactorNets().join(0, 1), -2);
    }

    private static void cutPromise() {
        Document.promise(55);
        Document.says("An act: a LINE goes: how many are left.");
        FactorNets full = Texts.of("full 20;");
        Checks.due("cut(189) of full 20", full.cut(189), 189);
        Checks.due("between(18, 19)", full.between(18, 19), -1);
        Checks.due("cut(0)", full.cut(0), 188);
        Checks.due("between(0, 2), the first one now", full.between(0, 2), 0);
        Checks.due("count(5)", full.count(5), 2);
        Checks.due("cut(0) of ring 3", Texts.of("ring 3;").cut(0), 2);
        dueAsTold("cut()", "row 3;row 3;", y -> y.cut(0));

        Document.says("-2: there is none such;");
        FactorNets x = Texts.of("ring 5;");
        Beyond.dueBoth("cut", 5, x::cut, -2);
        Checks.due("count(1) behind refused ones", x.count(1), 5);
        Checks.due("count(5) behind refused ones", x.count(5), 0);
        Checks.due("cut(0) of one POINT", Texts.of(Texts.POINT).cut(0), -2);
        Checks.due("cut(0) of none", new FactorNets().cut(0), -2);
        FactorNets weary = weary();
        Checks.due("cut(2) at 20", weary.cut(2), -2);

        Document.says("-5: the NET would not be CONNECTED, there were 20 acts.");
        Checks.due("cut(0) of row 2", Texts.of("row 2;").cut(0), -5);
        FactorNets row = Texts.of("row 20;");
        for (int l = 0; l < 19; l++) {
            Checks.due("cut(" + l + ") of row 20", row.cut(l), -5);
        }
        dueIdle("cut() of a bridge", row, y -> y.cut(9));
        FactorNets paw = Texts.of(Texts.PAW);
        Checks.due("cut(3) of a paw", paw.cut(3), -5);
        Checks.due("cut(2) of a paw", paw.cut(2), 3);
        weary.undo();
        weary.undo();
        weary.undo();
        weary.times(0, 2);
        Checks.due("cut(0) at 18", weary.cut(0), 8);
        Checks.due("cut(0) at 19", weary.cut(0), 7);
        Checks.due("count(5)", weary.count(5), 20);
        dueIdle("cut() at 20", weary, y -> Checks.due("cut(6) at 20", y.cut(6), -5));
    }

    private static void timesPromise() {
        Document.promise(56);
        Document.says("An act: the NET becomes its PRODUCT (VI) by a row (kind 0), a ring (1), a net of all LINES (2) "
            + "of n POINTS (2 .. 10; a ring 3 at least): how many POINTS.");
        for (int kind = 0; kind < 3; kind++) {
            for (int points = 1; points <= 20; points++) {
                for (int n = kind == 1 ? 3 : 2; n <= 10; n++) {
                    if (points * n <= 20) {
                        FactorNets x = Texts.of(points == 1 ? Texts.POINT : "row " + points + ";");
                        int across = kind == 0 ? n - 1 : kind == 1 ? n : n * (n - 1) / 2;
                        String call = "times(" + kind + ", " + n + ") of row " + points;
                        Checks.due(call, x.times(kind, n), points * n);
                        Checks.due("count(1) behind " + call, x.count(1), (points - 1) * n + points * across);
                        Checks.due("count(5) behind " + call, x.count(5), 1);
                    }
                }
            }
        }

        dueAsTold("times()", "ring 5;", y -> y.times(0, 3));

        Document.says("-2: there are none such, no NET;");
        FactorNets x = Texts.of("row 2;");
        Beyond.dueBoth("times(?, 2)", 3, kind -> x.times(kind, 2), -2);
        Beyond.dueBoth("times(?, 3)", 3, kind -> x.times(kind, 3), -2);
        for (int kind = 0; kind < 3; kind++) {
            int fixed = kind;
            Beyond.dueBelow("times(" + kind + ", ?)", n -> x.times(fixed, n), -2);
            Beyond.dueFrom("times(" + kind + ", ?)", 11, n -> x.times(fixed, n), -2);
            Checks.due("times(" + kind + ", 0)", x.times(kind, 0), -2);
            Checks.due("times(" + kind + ", 1)", x.times(kind, 1), -2);
        }
        Checks.due("times(1, 2), too small a ring", x.times(1, 2), -2);
        Checks.due("count(0) behind refused ones", x.count(0), 2);
        Checks.due("count(5) behind refused ones", x.count(5), 0);
        FactorNets full = Texts.of("full 20;");
        Checks.due("times(0, 11) of 20 POINTS", full.times(0, 11), -2);
        Checks.due("times(1, 2) of 20 POINTS", full.times(1, 2), -2);
        FactorNets weary = weary();
        Checks.due("times(3, 2) at 20 acts", weary.times(3, 2), -2);
        Checks.due("times(1, 2) at 20 acts", weary.times(1, 2), -2);
        for (int kind = 0; kind < 3; kind++) {
            Checks.due("times(" + kind + ", 3) of none", new FactorNets().times(kind, 3), -2);
        }

        Document.says("-5: it would have more than 20 POINTS, there were 20 acts.");
        for (int points = 3; points <= 20; points++) {
            FactorNets row = Texts.of("row " + points + ";");
            for (int kind = 0; kind < 3; kind++) {
                for (int n = 3; n <= 10; n++) {
                    if (points * n > 20) {
                        Checks.due("times(" + kind + ", " + n + ") of row " + points, row.times(kind, n), -5);
                    }
                }
            }
            Checks.due("count(0)", row.count(0), points);
            Checks.due("count(5)", row.count(5), 0);
        }
        Checks.due("times(0, 2) of row 11", Texts.of("row 11;").times(0, 2), -5);
        dueIdle("times() at 20 acts", weary, y -> Checks.due("times(0, 2) at 20", y.times(0, 2), -5));
        weary.undo();
        Checks.due("times(0, 2) at 19", weary.times(0, 2), 6);
    }

    private static void keepPromise() {
        Document.promise(57);
        Document.says("An act: the NET becomes a PART of it (POINTS by their numbers): how many POINTS.");
        FactorNets x = Texts.of("row 3;ring 5;");
        Checks.due("keep(1)", x.keep(1), 5);
        Checks.due("count(5)", x.count(5), 1);
        Checks.due("count(1)", x.count(1), 5);
        for (int p = 0; p < 5; p++) {
            Checks.due("beside(" + p + ")", x.beside(p), 1 << (p + 1) % 5 | 1 << (p + 4) % 5);
        }
        Checks.due("keep(0), all of it", x.keep(0), 5);
        Checks.due("count(5)", x.count(5), 2);
        Checks.due("keep(0) of full 20", Texts.of("full 20;").keep(0), 20);
        FactorNets cube = Texts.of("row 2;row 2;row 2;row 2;");
        Checks.due("keep(3) of a cube", cube.keep(3), 2);
        Checks.due("count(3)", cube.count(3), 1);
        dueAsTold("keep()", "row 2;ring 5;", y -> y.keep(1));

        Document.says("-2: there is none such;");
        FactorNets y = Texts.of("row 3;ring 5;");
        Beyond.dueBoth("keep", 2, y::keep, -2);
        Checks.due("count(5) behind refused ones", y.count(5), 0);
        FactorNets point = Texts.of(Texts.POINT);
        Beyond.dueBoth("keep of one POINT", 0, point::keep, -2);
        Checks.due("keep(0) of none", new FactorNets().keep(0), -2);
        FactorNets weary = weary();
        Checks.due("keep(1) at 20", weary.keep(1), -2);

        Document.says("-5: there were 20 acts.");
        dueIdle("keep() at 20", weary, z -> Checks.due("keep(0) at 20", z.keep(0), -5));
        weary.undo();
        Checks.due("keep(0) at 19", weary.keep(0), 3);
        Checks.due("count(5)", weary.count(5), 20);
    }

    private static void imagePromise() {
        Document.promise(58);
        Document.says("IMAGE k (0 .. 2) keeps the NET, acts: 0.");
        for (int k = 0; k < 3; k++) {
            FactorNets x = Texts.of("row 3;");
            x.join(0, 2);
            int fixed = k;
            dueIdle("image(" + k + ")", x, y -> Checks.due("image(" + fixed + ")", y.image(fixed), 0));
            State kept = State.of(x);
            x.times(0, 2);
            x.cut(0);
            Checks.due("back(" + k + ")", x.back(k), 0);
            kept.dueStill("back(" + k + ")", x);
            for (int other = 0; other < 3; other++) {
                if (other != k) {
                    Checks.due("back(" + other + "), not kept", x.back(other), -6);
                }
            }
        }
        FactorNets weary = weary();
        Checks.due("image(2) at 20 acts", weary.image(2), 0);
        Checks.due("anew()", weary.anew(), 20);
        Checks.due("back(2)", weary.back(2), 0);
        Checks.due("count(5)", weary.count(5), 20);
        Checks.due("join(0, 2) at 20", weary.join(0, 2), -5);
        Checks.due("undo()", weary.undo(), 19);
        Checks.due("count(1)", weary.count(1), 3);
        FactorNets point = Texts.of(Texts.POINT);
        Checks.due("image(0) of one POINT", point.image(0), 0);
        Texts.told(point, "row 2;");
        Checks.due("image(0) in place of it", point.image(0), 0);
        Texts.told(point, "row 3;");
        point.back(0);
        Checks.due("count(0), the later one", point.count(0), 2);

        Document.says("-2: no such k, no NET.");
        FactorNets x = Texts.of("row 3;");
        Beyond.dueBoth("image", 3, x::image, -2);
        for (int k = 0; k < 3; k++) {
            Checks.due("image(" + k + ") of a new one", new FactorNets().image(k), -2);
            Checks.due("back(" + k + ") behind such", x.back(k), -6);
        }
        x.image(1);
        Checks.due("net() of nothing", x.net(), 0);
        Checks.due("image(1) without a NET", x.image(1), -2);
        Checks.due("back(1), as it was", x.back(1), 0);
        Checks.due("count(0)", x.count(0), 3);
        Beyond.dueBoth("image of a new one", 3, new FactorNets()::image, -2);
    }

    private static void backPromise() {
        Document.promise(59);
        Document.says("They are as IMAGE k has them: 0.");
        FactorNets x = Texts.of("row 3;row 2;");
        x.join(0, 5);
        x.image(0);
        State kept = State.of(x);
        x.cut(0);
        x.keep(0);
        x.image(2);
        Checks.due("back(0)", x.back(0), 0);
        kept.dueStill("back(0)", x);
        x.join(0, 4);
        x.anew();
        Checks.due("back(0) again", x.back(0), 0);
        kept.dueStill("back(0) again", x);
        Texts.told(x, "full 20;");
        Checks.due("back(0) behind another net", x.back(0), 0);
        kept.dueStill("back(0) behind another net", x);
        Checks.due("undo()", x.undo(), 0);
        Checks.due("count(1)", x.count(1), 7);
        x.net();
        Checks.due("back(0) without a NET", x.back(0), 0);
        kept.dueStill("back(0) without a NET", x);
        Checks.due("back(2), three acts", x.back(2), 0);
        Checks.due("count(5)", x.count(5), 3);
        Checks.due("undo()", x.undo(), 2);
        Checks.due("undo()", x.undo(), 1);
        kept.dueStill("undo()", x);
        dueAsTold("back()", "ring 6;", y -> y.image(1) + y.join(0, 3), y -> y.back(1));
        otherActsOverIt();
        // The TAPE and OUT are not of it.
        x.tell();
        Texts.feed(x, "row");
        x.back(2);
        Checks.due("count(6)", x.count(6), 3);
        Checks.due("count(7)", x.count(7), 7);

        Document.says("-2: no such k;");
        State before = State.of(x);
        Beyond.dueBoth("back", 3, x::back, -2);
        before.dueStill("refused ones", x);
        Beyond.dueBoth("back of a new one", 3, new FactorNets()::back, -2);

        Document.says("-6: it has nothing.");
        for (int k = 0; k < 3; k++) {
            Checks.due("back(" + k + ") of a new one", new FactorNets().back(k), -6);
        }
        Checks.due("back(1), not kept", x.back(1), -6);
        before.dueStill("refused ones", x);
    }

    // Acts of another net, as many, must not show in those that the image keeps, nor those in it.
    private static void otherActsOverIt() {
        FactorNets x = acted(6);
        x.image(1);
        Texts.told(x, "full 4;");
        for (int i = 0; i < 7; i++) {
            x.times(0, 2);
            x.keep(1);
        }
        x.back(1);
        for (int acts = 5; acts >= 0; acts--) {
            Checks.due("undo() behind back(1)", x.undo(), acts);
            State.of(acted(acts)).dueStill("undo() behind back(1)", x);
        }
    }

    private static int act(FactorNets x, int number) {
        switch (number % 5) {
            case 0: return x.times(0, 2);
            case 1: return x.join(0, 3);
            case 2: return x.cut(0);
            case 3: return x.times(2, 3);
            default: return x.keep(0);
        }
    }

    private static FactorNets acted(int acts) {
        FactorNets x = Texts.of("row 2;");
        for (int i = 0; i < acts; i++) {
            int answer = act(x, i);
            if (answer < 0 && x.keep(0) < 0) {
                Checks.fail("act " + i + " was refused: " + answer);
            }
        }
        return x;
    }

    private static void undoPromise() {
        Document.promise(60);
        Document.says("The latest act is taken back: how many there are.");
        for (int acts = 0; acts < MOST_ACTS; acts++) {
            State want = State.of(acted(acts));
            FactorNets x = acted(MOST_ACTS);
            for (int left = MOST_ACTS - 1; left >= acts; left--) {
                Checks.due("undo()", x.undo(), left);
            }
            want.dueStill(MOST_ACTS - acts + " undo()", x);
        }
        FactorNets mixed = Texts.of("row 3;");
        mixed.join(0, 2);
        mixed.undo();
        mixed.times(0, 2);
        Checks.due("undo() of a later act", mixed.undo(), 0);
        Checks.due("count(1)", mixed.count(1), 2);
        dueAsTold("undo()", "row 4;", y -> y.times(2, 3), FactorNets::undo);

        Document.says("-2: there is no NET;");
        FactorNets none = new FactorNets();
        Checks.due("undo() of a new one", none.undo(), -2);
        Texts.told(none, "row 3;");
        none.join(0, 2);
        none.net();
        Checks.due("undo() of none behind acts", none.undo(), -2);

        Document.says("-5: there is none.");
        FactorNets x = Texts.of("row 3;");
        dueIdle("undo() without acts", x, y -> Checks.due("undo()", y.undo(), -5));
        x.join(0, 2);
        x.undo();
        Checks.due("undo() of one taken back", x.undo(), -5);
        x.join(0, 1);
        Checks.due("undo() behind a refused act", x.undo(), -5);
        x.join(0, 2);
        Texts.told(x, "row 4;");
        Checks.due("undo() behind another net", x.undo(), -5);
        Checks.due("count(0)", x.count(0), 4);
    }

    private static void anewPromise() {
        Document.promise(61);
        Document.says("All are: how many there were.");
        State start = State.of(Texts.of("row 2;"));
        for (int acts = 0; acts <= MOST_ACTS; acts++) {
            FactorNets x = acted(acts);
            Checks.due("anew() of " + acts, x.anew(), acts);
            start.dueStill("anew() of " + acts, x);
            Checks.due("undo() behind it", x.undo(), -5);
            Checks.due("anew() again", x.anew(), 0);
        }
        FactorNets full = acted(MOST_ACTS);
        full.anew();
        Checks.due("an act behind it", full.times(0, 10), 20);
        Checks.due("count(5)", full.count(5), 1);
        dueAsTold("anew()", "row 4;", y -> y.times(2, 3) + y.join(0, 11), FactorNets::anew);

        Document.says("-2 likewise.");
        FactorNets none = new FactorNets();
        Checks.due("anew() of a new one", none.anew(), -2);
        Texts.told(none, "row 3;");
        none.join(0, 2);
        none.net();
        Checks.due("anew() of none behind acts", none.anew(), -2);
    }

    private static void calls() {
        Document.section("What it is");
        Document.says("An object is used for at most 512 calls after it has been made;");
        FactorNets x = new FactorNets();
        x.feed(0x66756c6c, 0x2032303b, 0, 0, 0);
        x.end(8);
        x.net();
        for (int i = 0; i < 254; i++) {
            x.cut(i % 190);
            x.undo();
        }
        Checks.due("the 512th call", x.allSymmetries(), 2432902008176640000L);
    }
}
