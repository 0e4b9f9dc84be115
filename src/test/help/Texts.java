/** Brings texts to an object's tape, and its OUT back as a text. */
final class Texts {
    static final String POINT = "net points 1;";
    static final String STAR = "net points 4;line 0 1;line 0 2;line 0 3;";
    static final String PAW = "net points 4;line 0 1;line 1 2;line 2 0;line 2 3;";
    static final String TWO_BY_THREE = "net points 5;line 0 2;line 0 3;line 0 4;line 1 2;line 1 3;line 1 4;";
    static final String PETERSEN = "net points 10;"
        + "line 0 1;line 1 2;line 2 3;line 3 4;line 4 0;"
        + "line 5 7;line 7 9;line 9 6;line 6 8;line 8 5;"
        + "line 0 5;line 1 6;line 2 7;line 3 8;line 4 9;";

    private Texts() {
    }

    static void feed(FactorNets x, String text) {
        int had = x.count(6);
        for (int i = 0; i < text.length(); i += 20) {
            int[] words = new int[5];
            for (int j = 0; j < 20 && i + j < text.length(); j++) {
                words[j / 4] |= (text.charAt(i + j) & 255) << 24 - 8 * (j % 4);
            }
            x.feed(words[0], words[1], words[2], words[3], words[4]);
        }
        x.end(had + text.length());
    }

    static int told(FactorNets x, String text) {
        feed(x, text);
        return x.net();
    }

    /** A new object with the net of a text that must tell one. */
    static FactorNets of(String text) {
        FactorNets x = new FactorNets();
        int points = told(x, text);
        if (points < 1) {
            throw new IllegalStateException("net() of '" + text + "' answered " + points);
        }
        return x;
    }

    /** A text that tells the NET of an object, point by point. */
    static String textOf(FactorNets x) {
        StringBuilder b = new StringBuilder("net points " + x.count(0) + ";");
        for (int p = 0; p < x.count(0); p++) {
            int beside = x.beside(p);
            for (int q = p + 1; q < x.count(0); q++) {
                if ((beside >> q & 1) != 0) {
                    b.append("line").append(p).append(' ').append(q).append(';');
                }
            }
        }
        return b.toString();
    }

    static String out(FactorNets x) {
        StringBuilder b = new StringBuilder();
        for (int i = 0; i < x.count(7); i++) {
            b.append((char) x.octet(i));
        }
        return b.toString();
    }
}
