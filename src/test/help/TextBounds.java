/** Terms I, promises 1 to 6: the tape, the text, its faults. */
final class TextBounds {
    private static final String[] WORDS = {"row", "ring", "full"};
    private static final int[] LEAST = {2, 3, 2};
    // In 32 or 64 bits these would be 2, 3, 20 again.
    private static final String[] GREAT = {"21", "99", "100", "2147483648", "4294967298", "4294967299", "4294967316",
        "18446744073709551618", "18446744073709551619", "18446744073709551636", "99999999999999999999999999999999"};

    private TextBounds() {
    }

    static void run() {
        textForm();
        firstLine();
        numbersOfPoints();
        products();
        tokens();
        faults();
        tooManyPoints();
        connected();
        newObject();
        feedPromise();
        endPromise();
        netPromise();
        netRefused();
        faultPromise();
        countPromise();
    }

    /** The sign ^ in a text stands ahead of the place where its fault is, and is not of the text. */
    private static void dueFault(String marked, int fault) {
        int place = marked.indexOf('^');
        String text = marked.replace("^", "");
        FactorNets x = new FactorNets();
        Checks.due("net() of '" + text + "'", Texts.told(x, text), -4);
        Checks.due("fault(0) of '" + text + "'", x.fault(0), fault);
        Checks.due("fault(1) of '" + text + "'", x.fault(1), place);
    }

    private static void dueNet(String text, int answer) {
        FactorNets x = new FactorNets();
        Checks.due("net() of '" + text + "'", Texts.told(x, text), answer);
        Checks.due("fault(0) of '" + text + "'", x.fault(0), 0);
        Checks.due("fault(1) of '" + text + "'", x.fault(1), -1);
    }

    private static void dueLines(String text, int lines) {
        FactorNets x = new FactorNets();
        Texts.told(x, text);
        Checks.due("count(1) of '" + text + "'", x.count(1), lines);
    }

    private static void textForm() {
        Document.term("I");
        Document.says("TEXT: {LINE ;}.");
        dueNet("", 0);
        dueNet(" ", 0);
        dueNet("\n", 0);
        dueNet("row 3;", 3);
        dueNet("row 3;row 2;", 6);
        dueFault("^;", 1);
        dueFault("row 3;^;", 1);
        dueFault("^;row 3;", 1);
        dueFault("row 3^", 1);
        dueFault("row 3;row 2^", 1);
        dueFault("row 3 ^row 2;", 1);

        Document.says("LINE: net points N | line A B | row N | ring N | full N.");
        dueNet("net points 1;", 1);
        dueNet("net points 2;line 0 1;", 2);
        dueNet("row 2;", 2);
        dueNet("ring 3;", 3);
        dueNet("full 2;", 2);
        String[] tooShort = {"net^;", "net points^;", "row^;", "ring^;", "full^;", "row 3;line^;", "row 3;line 0^;"};
        for (String marked : tooShort) {
            dueFault(marked, 1);
        }
        String[] tooLong = {"net points 1 ^1;", "row 2 ^2;", "ring 3 ^3;", "full 2 ^2;", "row 3;line 0 2 ^1;"};
        for (String marked : tooLong) {
            dueFault(marked, 1);
        }
        String[] otherwise = {"net ^2;", "net ^point 2;", "net ^pointss 2;", "net ^row 2;", "net points ^points;",
            "^points 2;", "^rows 2;", "^ro 2;", "^rin 3;", "^rings 3;", "^ful 2;", "^fulls 2;", "^ne points 2;",
            "^nets points 2;", "row ^row;", "row ^points 3;", "^2 row;", "row 3;^lin 0 2;", "row 3;^lines 0 2;",
            "row 3;line ^x 2;", "row 3;line 0 ^x;", "row 3;^0 2;", "^one;"};
        for (String marked : otherwise) {
            dueFault(marked, 1);
        }
        otherLetters();
    }

    // Each word of a LINE with one letter that is another.
    private static void otherLetters() {
        String[] marked = {"^net points 1;", "net ^points 1;", "^row 2;", "^ring 3;", "^full 2;", "row 3;^line 0 2;"};
        for (String text : marked) {
            for (int i = text.indexOf('^') + 1; text.charAt(i) != ' '; i++) {
                dueFault(text.substring(0, i) + 'z' + text.substring(i + 1), 1);
            }
        }
    }

    private static void firstLine() {
        Document.says("net or a row, ring, full is the first LINE:");
        dueNet("net points 1;", 1);
        dueNet("row 20;", 20);
        dueNet("ring 20;", 20);
        dueNet("full 20;", 20);
        dueFault("^line 0 1;", 1);
        dueFault("^line 0 1;net points 2;", 1);
    }

    private static void numbersOfPoints() {
        Document.says("net: POINTS 0 .. N - 1 (N 1 .. 20) without LINES, then lines of two unlike ones, "
            + "each two once.");
        dueFault("net points ^0;", 2);
        dueFault("net points ^00;", 2);
        dueNet("net points 1;", 1);
        dueNet("net points 0001;", 1);
        dueLines("net points 1;", 0);
        StringBuilder star = new StringBuilder("net points 20;");
        dueNet(star.toString(), -5);
        for (int p = 0; p < 19; p++) {
            star.append("line 19 ").append(p).append(";");
        }
        dueNet(star.toString(), 20);
        dueLines(star.toString(), 19);
        dueFault("net points ^21;", 2);
        for (String number : GREAT) {
            dueFault("net points ^" + number + ";", 2);
        }
        dueFault("net points 2;line 0 ^0;", 2);
        dueFault("net points 2;line 1 ^1;", 2);
        dueFault("net points 1;line 0 ^0;", 2);
        dueFault("net points 2;line 0 1;line 0 ^1;", 2);
        dueFault("net points 2;line 0 1;line 1 ^0;", 2);
        dueNet("net points 2;line 1 0;", 2);

        Document.says("row N (2 .. 20), ring N (3 .. 20), full N (2 .. 20):");
        for (int kind = 0; kind < 3; kind++) {
            for (int n = 0; n <= 22; n++) {
                boolean fits = n >= LEAST[kind] && n <= 20;
                for (String ahead : new String[] {"", Texts.POINT}) {
                    if (fits) {
                        dueNet(ahead + WORDS[kind] + " " + n + ";", n);
                    } else {
                        dueFault(ahead + WORDS[kind] + " ^" + n + ";", 2);
                    }
                }
            }
            for (String number : GREAT) {
                dueFault(WORDS[kind] + " ^" + number + ";", 2);
            }
        }

        Document.says("the first one is the NET of so many POINTS (LINES from each to the next; of a ring from "
            + "the last one to the first, too; of full of all pairs);");
        for (int n = 2; n <= 20; n++) {
            firstNets(n);
        }
    }

    private static void firstNets(int n) {
        FactorNets row = Texts.of("row " + n + ";");
        FactorNets full = Texts.of("full " + n + ";");
        FactorNets ring = n > 2 ? Texts.of("ring " + n + ";") : null;
        Checks.due("count(1) of row " + n, row.count(1), n - 1);
        Checks.due("count(1) of full " + n, full.count(1), n * (n - 1) / 2);
        for (int p = 0; p < n; p++) {
            int all = (1 << n) - 1;
            int besides = (1 << p + 1 | 1 << p >> 1) & all;
            int around = besides | (p == 0 ? 1 << n - 1 : 0) | (p == n - 1 ? 1 : 0);
            Checks.due("beside(" + p + ") of row " + n, row.beside(p), besides);
            Checks.due("beside(" + p + ") of full " + n, full.beside(p), all & ~(1 << p));
            if (ring != null) {
                Checks.due("beside(" + p + ") of ring " + n, ring.beside(p), around);
            }
        }
        if (ring != null) {
            Checks.due("count(1) of ring " + n, ring.count(1), n);
        }
    }

    private static void products() {
        Document.says("each further one makes the NET its PRODUCT (VI) by that;");
        dueNet("row 2;row 2;", 4);
        dueLines("row 2;row 2;", 4);
        dueNet("net points 1;row 20;", 20);
        dueLines("net points 1;full 20;", 190);
        dueNet("net points 2;line 0 1;ring 3;", 6);
        dueLines("net points 2;line 0 1;ring 3;", 9);
        dueNet("row 2;row 2;row 2;row 2;", 16);
        dueLines("row 2;row 2;row 2;row 2;", 32);
        dueFault("row 2;row 2;row 2;row 2;row ^2;", 3);

        Document.says("at any time lines may come (of POINTS that there are then).");
        dueFault("row 2;line 0 ^2;row 2;", 2);
        dueFault("row 2;row 2;line ^4 0;", 2);
        dueFault("row 2;row 2;line 0 ^4;", 2);
        dueLines("row 2;row 2;line 0 3;", 5);
        dueLines("row 3;line 0 2;row 2;", 9);
        dueLines("row 2;row 2;line 3 0;row 2;line 0 7;", 15);
        dueNet("net points 2;row 2;line 0 1;", 4);
        dueFault("row 2;row 2;line 0 ^2;", 2);
        dueFault("row 2;row 2;line 3 ^2;", 2);
    }

    private static void tokens() {
        Document.says("TOKENS, blanks (32, 10) aside, the longest: words (a .. z), numbers (digits), the sign ; .");
        for (int b = 0; b < 256; b++) {
            tokenInside((char) b);
            if (b == 32 || b == 10) {
                dueNet("row 3;" + (char) b, 3);
                dueNet((char) b + "row 3;", 3);
            } else if (b != '^') {
                dueFault("row 3;^" + (char) b, 1);
            }
        }
        dueNet("row3;row2;", 6);
        dueNet("net points2;line0 1;", 2);
        dueNet("net\npoints\n2\n;\nline\n0\n1\n;\n", 2);
        dueNet("\n \n  row \n\n 3  \n;  row2 ;", 6);
        dueNet("row 0000000000000000000000000000000000000000000000000000000002;", 2);
        dueFault("^netpoints 2;line 0 1;", 1);
        dueFault("^rowrow 3;", 1);
        dueFault("row 2 ^0;", 1);
        dueNet("row 20;", 20);
        dueFault("row 3;line 02^;", 1);
        dueNet("row 3;line 0 02;", 3);
    }

    // The byte stands between the word and the number of "row 3;".
    private static void tokenInside(char b) {
        String after = b + "3;";
        if (b == 32 || b == 10 || b == '0') {
            dueNet("row" + after, 3);
        } else if (b == '1') {
            dueNet("row" + after, 13);
        } else if (b > '1' && b <= '9') {
            dueFault("row^" + after, 2);
        } else if (b >= 'a' && b <= 'z') {
            dueFault("^row" + after, 1);
        } else if (b != '^') {
            dueFault("row^" + after, 1);
        } else {
            FactorNets x = new FactorNets();
            Texts.told(x, "row^3;");
            Checks.due("fault(1) of 'row^3;'", x.fault(1), 3);
        }
    }

    private static void faults() {
        Document.says("FAULTS, the first by its place (a TOKEN's first byte; the end's), of one place the least:");
        dueFault("row ^1;line 0 0;row 99;x", 2);
        dueFault("row 3;^x;row 1;", 1);
        dueFault("row 5;row ^5;row 1;x", 3);
        dueFault("row 5;row ^5", 3);
        dueFault("row 5;row ^5 5;", 3);
        dueFault("row ^1 1;", 2);
        dueFault("row 3;line 0 ^0000000;", 2);
        dueFault("  ^abc 3;", 1);
        dueFault("row 3;line ^9 x;", 2);
        dueFault("row 3;line ^9;", 2);
        for (String text : new String[] {"row^", "net^", "net points^", "net points 3^", "row 3;line^", "row 3;line 0^",
            "row 3;line 0 2^", "row 3 ^", "row 3\n^", "row 3  \n\n  ^", "row ^"}) {
            dueFault(text, 1);
        }
        dueFault("row 20;row ^21;", 2);
        dueFault("row 20;row ^1;", 2);
        dueFault("row 20;ring ^2;", 2);
        dueFault("row 20;ring ^21;", 2);
        dueFault("row 20;full ^1;", 2);
        dueFault("row 20;full ^99999999999999999999;", 2);
        dueFault("row 20;row ^x;", 1);
        dueFault("row 20;row^;", 1);

        Document.says("1 a TOKEN that is none, or can't stand there (net behind the first LINE, "
            + "line as the first one).");
        dueFault("^Row 3;", 1);
        dueFault("^ROW 3;", 1);
        dueFault("^rOw 3;", 1);
        dueFault("row ^-3;", 1);
        dueFault("row ^+3;", 1);
        dueFault("row 3^.;", 1);
        dueFault("row 3^,", 1);
        dueFault("row 3;^net points 3;", 1);
        dueFault("net points 1;^net points 1;", 1);
        dueFault("row 3;line 0 2;^net points 3;", 1);
        dueFault("^line 0 1;", 1);
        dueFault("^line", 1);

        Document.says("2 a number out of its bounds, a POINT that is none, as B the one that A is, "
            + "or there is a LINE of both.");
        dueFault("row ^21;", 2);
        dueFault("row 3;line ^3 0;", 2);
        dueFault("row 3;line 0 ^3;", 2);
        dueFault("ring 20;line ^20 0;", 2);
        dueFault("ring 20;line 0 ^20;", 2);
        dueFault("row 3;line ^4294967296 2;", 2);
        dueFault("row 3;line 0 ^4294967298;", 2);
        dueFault("row 3;line 0 ^18446744073709551618;", 2);
        dueFault("row 3;line 2 ^2;", 2);
        dueFault("row 3;line 0 ^0;", 2);
        dueFault("row 3;line 0 ^1;", 2);
        dueFault("row 3;line 2 ^1;", 2);
        dueFault("row 3;line 2 0;line 0 ^2;", 2);
        dueFault("row 3;line ^3 3;", 2);
        dueNet("row 3;line 0 2;", 3);
        dueNet("row 3;line 2 0;", 3);
        dueNet("row 20;line 0 19;", 20);
        dueFault("ring 3;line 0 ^2;", 2);
    }

    private static void tooManyPoints() {
        Document.says("3 a row, ring, full by which there would be more than 20 POINTS, at its number.");
        for (int kind = 0; kind < 3; kind++) {
            for (int p = 2; p <= 20; p++) {
                for (int n = LEAST[kind]; n <= 20; n++) {
                    String ahead = "row " + p + ";" + WORDS[kind];
                    if (p * n > 20) {
                        dueFault(ahead + " ^" + n + ";", 3);
                    } else {
                        dueNet(ahead + " " + n + ";", p * n);
                    }
                }
            }
        }
        dueFault("net points 20;row ^2;", 3);
        dueFault("net points 11;line 0 1;full ^2;", 3);
        dueFault("row 2;row 5;row 2;row ^2;", 3);
        dueNet("row 2;row 5;row 2;", 20);
    }

    private static void connected() {
        Document.says("CONNECTED: one comes from each POINT to each by LINES.");
        dueNet("net points 1;", 1);
        dueNet("net points 2;", -5);
        dueNet("net points 2;line 0 1;", 2);
        dueNet("net points 3;line 0 1;", -5);
        dueNet("net points 3;line 1 2;", -5);
        dueNet("net points 3;line 0 2;", -5);
        dueNet("net points 4;line 0 1;line 2 3;", -5);
        dueNet("net points 4;line 0 1;line 2 3;line 1 2;", 4);
        dueNet("net points 2;row 2;", -5);
        dueNet("net points 2;row 2;line 0 1;", 4);

        Document.says("LINES are numbered by their lesser POINTS, then the greater ones.");
        FactorNets x = Texts.of("net points 4;line 3 2;line 3 0;line 2 1;line 1 0;");
        int[][] ends = {{0, 1}, {0, 3}, {1, 2}, {2, 3}};
        for (int l = 0; l < 4; l++) {
            Checks.due("line(" + l + ", 0)", x.line(l, 0), ends[l][0]);
            Checks.due("line(" + l + ", 1)", x.line(l, 1), ends[l][1]);
        }
        FactorNets full = Texts.of("full 20;");
        int next = 0;
        for (int p = 0; p < 20; p++) {
            for (int q = p + 1; q < 20; q++) {
                Checks.due("between(" + p + ", " + q + ") of full 20", full.between(p, q), next);
                next++;
            }
        }
    }

    private static void newObject() {
        Document.promise(1);
        Document.says("No NET.");
        FactorNets x = new FactorNets();
        for (int what = 0; what < 8; what++) {
            Checks.due("count(" + what + ")", x.count(what), 0);
        }
        NoNet.dueOf("a new one", x);
        Checks.due("octet(0)", x.octet(0), -1);
        Checks.due("net() of nothing", x.net(), 0);
        Checks.due("undo()", x.undo(), -2);
        Checks.due("back(0)", x.back(0), -6);
        Checks.due("back(2)", x.back(2), -6);
    }

    private static void feedPromise() {
        Document.promise(2);
        Document.says("Twenty bytes come behind the TAPE, four of each number, the highest first: how many it has;");
        FactorNets x = new FactorNets();
        Checks.due("feed", x.feed(0x726f7720, 0x333b2020, 0x726f7720, 0x323b2020, 0x20202020), 20);
        Checks.due("feed again", x.feed(0x6c696e65, 0x20302035, 0x3b0a0a0a, 0x0a0a0a0a, 0x0a0a0a0a), 40);
        Checks.due("net()", x.net(), 6);
        Checks.due("count(1)", x.count(1), 8);
        Checks.due("count(2)", x.count(2), 3);
        // Numbers below 0 are bytes above 127; each is one place of the tape.
        for (int place = 0; place < 20; place++) {
            int[] words = {0x20202020, 0x20202020, 0x20202020, 0x20202020, 0x20202020};
            words[place / 4] ^= 0xa0 << 24 - 8 * (place % 4);
            Checks.due("feed", x.feed(words[0], words[1], words[2], words[3], words[4]), 20);
            Checks.due("net() of a byte 128 at " + place, x.net(), -4);
            Checks.due("fault(1) of a byte 128 at " + place, x.fault(1), place);
        }

        Document.says("NONE, and none come, if it would have more than 800.");
        FactorNets full = new FactorNets();
        for (int i = 1; i <= 39; i++) {
            Checks.due("feed " + i, full.feed(0x20202020, 0x20202020, 0x20202020, 0x20202020, 0x20202020), 20 * i);
        }
        Checks.due("feed at 780", full.feed(0x20202020, 0x20202020, 0x20202020, 0x2020726f, 0x7720333b), 800);
        Checks.due("feed at 800", full.feed(0x20202020, 0x20202020, 0x20202020, 0x20202020, 0x20202020), -1);
        Checks.due("feed at 800 again", full.feed(0, 0, 0, 0, 0), -1);
        Checks.due("count(6) at 800", full.count(6), 800);
        Checks.due("net() of 800 bytes", full.net(), 3);
        Checks.due("feed behind net()", full.feed(0, 0, 0, 0, 0), 20);
        almostFull();
    }

    private static void almostFull() {
        FactorNets x = new FactorNets();
        Texts.feed(x, "row 3;" + " ".repeat(794));
        Checks.due("count(6)", x.count(6), 800);
        for (int n = 799; n > 780; n--) {
            Checks.due("end", x.end(n), n);
            Checks.due("feed at " + n, x.feed(0, 0, 0, 0, 0), -1);
            Checks.due("count(6) at " + n, x.count(6), n);
        }
        Checks.due("end(780)", x.end(780), 780);
        Checks.due("feed at 780", x.feed(0x726f7720, 0x323b2020, 0x20202020, 0x20202020, 0x20202020), 800);
        Checks.due("net()", x.net(), 6);
    }

    private static void endPromise() {
        Document.promise(3);
        Document.says("The TAPE has its first n bytes alone: n;");
        FactorNets x = new FactorNets();
        Checks.due("end(0) of none", x.end(0), 0);
        Texts.feed(x, "row 3;row 2;row 2;");
        Checks.due("end(18), all of them", x.end(18), 18);
        Checks.due("count(6)", x.count(6), 18);
        Checks.due("end(12)", x.end(12), 12);
        Checks.due("count(6)", x.count(6), 12);
        Texts.feed(x, "row 3;");
        Checks.due("net()", x.net(), 18);
        Texts.feed(x, "row 3;");
        Checks.due("end(0)", x.end(0), 0);
        Checks.due("count(6)", x.count(6), 0);
        Checks.due("net() of none", x.net(), 0);

        Document.says("NONE, and nothing happens, if it has not so many, or n is below 0.");
        Checks.due("end(1) of none", x.end(1), -1);
        Texts.feed(x, "row 3;row 2;");
        Beyond.dueBoth("end", 13, x::end, -1);
        Checks.due("count(6)", x.count(6), 12);
        Checks.due("end(6)", x.end(6), 6);
        Checks.due("end(7), that were there", x.end(7), -1);
        Checks.due("end(12), that were there", x.end(12), -1);
        Checks.due("count(6)", x.count(6), 6);
        Checks.due("net()", x.net(), 3);
        Checks.due("end(6) behind net()", x.end(6), -1);
    }

    private static void netPromise() {
        Document.promise(4);
        Document.says("The TAPE (empty then) tells the NET (in place of another), no acts: "
            + "how many POINTS (0: there is none then).");
        FactorNets x = new FactorNets();
        Checks.due("net() of row 3", Texts.told(x, "row 3;"), 3);
        Checks.due("count(6)", x.count(6), 0);
        x.join(0, 2);
        Checks.due("count(5)", x.count(5), 1);
        Checks.due("net() of row 2", Texts.told(x, "row 2;"), 2);
        Checks.due("count(0)", x.count(0), 2);
        Checks.due("count(1)", x.count(1), 1);
        Checks.due("count(5)", x.count(5), 0);
        Checks.due("undo()", x.undo(), -5);
        Checks.due("net() of twenty", Texts.told(x, "full 20;"), 20);
        x.cut(0);
        Checks.due("net() of the empty tape", x.net(), 0);
        Checks.due("fault(0)", x.fault(0), 0);
        for (int what = 0; what < 8; what++) {
            Checks.due("count(" + what + ") of none", x.count(what), 0);
        }
        NoNet.dueOf("the empty text", x);
        x.feed(0x20202020, 0x0a0a0a0a, 0x20202020, 0x20202020, 0x20202020);
        Checks.due("net() of blanks", x.net(), 0);
        Checks.due("count(6)", x.count(6), 0);
        Checks.due("net() of one", Texts.told(x, "net points 1;"), 1);
        for (String text : new String[] {"full 4;row 2;", "full 4;row 2;line 0 5;", "row 2;"}) {
            FactorNets y = Texts.of("row 3;ring 5;");
            Answers.of(y);
            Texts.told(y, text);
            Answers.dueAsTold("net() in place of another", y);
        }
    }

    private static void netRefused() {
        Document.says("-4: a FAULT; -5: it is not CONNECTED (all else stays with both).");
        int[] answers = {-4, -4, -4, -4, -5, -5};
        String[] texts = {"row 9", "row 1;", "row 7;row 3;", "net points 2;x", "net points 2;",
            "net points 3;line 1 2;"};
        for (int i = 0; i < texts.length; i++) {
            FactorNets x = Texts.of("row 3;row 2;");
            x.tell();
            x.join(0, 5);
            x.image(1);
            x.cut(0);
            State before = State.of(x);
            Checks.due("net() of '" + texts[i] + "'", Texts.told(x, texts[i]), answers[i]);
            before.dueStill("net() of '" + texts[i] + "'", x);
            Checks.due("undo()", x.undo(), 1);
            Checks.due("count(1)", x.count(1), 8);
            Checks.due("back(1)", x.back(1), 0);
            Checks.due("back(0)", x.back(0), -6);
            Checks.due("anew()", x.anew(), 1);
            Checks.due("count(1)", x.count(1), 7);
        }
        for (int i = 0; i < texts.length; i++) {
            FactorNets none = new FactorNets();
            Checks.due("net() of '" + texts[i] + "' ahead of any", Texts.told(none, texts[i]), answers[i]);
            Checks.due("count(0)", none.count(0), 0);
            Checks.due("count(2)", none.count(2), 0);
            Checks.due("count(6)", none.count(6), 0);
            Checks.due("tell()", none.tell(), -2);
        }
        dueFault("net points 2;^x", 1);
        dueNet("net points 2;", -5);
    }

    private static void faultPromise() {
        Document.promise(5);
        Document.says("Of the latest net(), what 0: its FAULT, 0 without, 1: its place (NONE without).");
        FactorNets x = new FactorNets();
        Texts.told(x, "row 9");
        Checks.due("fault(0)", x.fault(0), 1);
        Checks.due("fault(1)", x.fault(1), 5);
        Texts.feed(x, "row 21;");
        x.end(0);
        Checks.due("fault(0) behind feed() and end()", x.fault(0), 1);
        Checks.due("fault(1) behind feed() and end()", x.fault(1), 5);
        Texts.told(x, "row 7;row 3;");
        Checks.due("fault(0) of the later one", x.fault(0), 3);
        Checks.due("fault(1) of the later one", x.fault(1), 10);
        Texts.told(x, "row 7;");
        Checks.due("fault(0) without", x.fault(0), 0);
        Checks.due("fault(1) without", x.fault(1), -1);
        Texts.told(x, "row 1;");
        Checks.due("fault(0)", x.fault(0), 2);
        x.join(0, 2);
        x.image(0);
        x.back(0);
        x.anew();
        Checks.due("fault(0) behind acts", x.fault(0), 2);
        Checks.due("fault(1) behind acts", x.fault(1), 4);
        Texts.told(x, "net points 2;");
        Checks.due("fault(0) with -5", x.fault(0), 0);
        Checks.due("fault(1) with -5", x.fault(1), -1);
        Texts.told(x, "x");
        Checks.due("fault(1) at the first byte", x.fault(1), 0);
        Checks.due("net() of nothing", x.net(), 0);
        Checks.due("fault(0) of nothing", x.fault(0), 0);
        Checks.due("fault(1) of nothing", x.fault(1), -1);

        Document.says("NONE for another what, and ahead of any (what 1).");
        FactorNets y = new FactorNets();
        Checks.due("fault(0) ahead of any", y.fault(0), 0);
        Checks.due("fault(1) ahead of any", y.fault(1), -1);
        Beyond.dueBoth("fault ahead of any", 2, y::fault, -1);
        Texts.told(y, "row 1;");
        Beyond.dueBoth("fault", 2, y::fault, -1);
    }

    private static void countPromise() {
        Document.promise(6);
        Document.says("0 POINTS, 1 LINES of the NET, 2 LINES of the text, 3 PARTS, 4 SIDES, 5 acts, "
            + "6 bytes of the TAPE, 7 of OUT.");
        FactorNets x = Texts.of("row 3;\nrow 2;line 0 5;");
        dueCounts("three lines", x, 6, 8, 3, 1, 1, 0, 0, 0);
        x.cut(x.between(0, 5));
        Texts.feed(x, "ring 7");
        x.tell();
        dueCounts("acts, a tape, OUT", x, 6, 7, 3, 2, 3, 1, 6, 11);
        x.keep(1);
        dueCounts("a part", x, 2, 1, 3, 1, 1, 2, 6, 11);
        x.net();
        dueCounts("a fault", x, 2, 1, 3, 1, 1, 2, 0, 11);
        Texts.told(x, "full 20;");
        dueCounts("full 20", x, 20, 190, 1, 1, 1, 0, 0, 11);
        x.tell();
        dueCounts("full 20 told", x, 20, 190, 1, 1, 1, 0, 0, 7);
        Texts.told(x, "net points 1;");
        dueCounts("one point", x, 1, 0, 1, 0, 0, 0, 0, 7);
        Texts.told(x, "row 20;");
        dueCounts("row 20", x, 20, 19, 1, 1, 19, 0, 0, 7);
        x.net();
        dueCounts("none", x, 0, 0, 0, 0, 0, 0, 0, 7);
        Texts.told(x, "row 2;row 2;row 2;row 2;");
        dueCounts("a cube", x, 16, 32, 4, 4, 4, 0, 0, 7);

        Document.says("NONE for others.");
        Beyond.dueBoth("count", 8, x::count, -1);
        Beyond.dueBoth("count of a new one", 8, new FactorNets()::count, -1);
    }

    private static void dueCounts(String name, FactorNets x, int... want) {
        for (int what = 0; what < want.length; what++) {
            Checks.due("count(" + what + ") of " + name, x.count(what), want[what]);
        }
    }
}
