import java.util.Arrays;

/** SIDES and PARTS as they follow from what theta() and tau() answer of each two LINES. */
final class Closure {
    private static final String[] NETS = {"row 2;", "row 4;", Texts.STAR, Texts.PAW, Texts.TWO_BY_THREE, Texts.PETERSEN,
        "ring 5;row 2;", "row 3;line 0 2;row 2;", "row 2;row 3;line 0 5;", "ring 7;line 0 3;", "full 5;",
        "ring 6;line 0 2;line 2 4;line 4 0;", "row 7;line 0 2;line 2 4;line 4 6;", "row 7;line 6 4;line 5 2;",
        "net points 5;line 0 1;line 0 2;line 2 3;line 1 4;line 3 4;",
        "net points 6;line 5 0;line 5 1;line 5 2;line 5 3;line 5 4;line 0 1;line 1 2;line 2 3;line 3 4;line 4 0;",
        "net points 6;line 4 5;line 3 5;line 3 4;line 2 3;line 1 4;line 0 5;line 0 1;line 1 2;"};

    private Closure() {
    }

    static void dueSides() {
        for (String text : NETS) {
            dueSorted(text, false);
        }
    }

    static void dueParts() {
        for (String text : NETS) {
            dueSorted(text, true);
        }
    }

    private static void dueSorted(String text, boolean forksToo) {
        int[] want = sorted(Texts.of(text), forksToo);
        FactorNets x = Texts.of(text);
        int sorts = 0;
        for (int l = 0; l < want.length; l++) {
            Checks.due("line(" + l + ", " + (forksToo ? 2 : 3) + ") of " + text, x.line(l, forksToo ? 2 : 3), want[l]);
            sorts = Math.max(sorts, want[l] + 1);
        }
        Checks.due("count(" + (forksToo ? 3 : 4) + ") of " + text, x.count(forksToo ? 3 : 4), sorts);
    }

    private static int[] sorted(FactorNets x, boolean forksToo) {
        int lines = x.count(1);
        int[] first = new int[lines];
        Arrays.setAll(first, l -> l);
        for (int l = 0; l < lines; l++) {
            for (int m = l + 1; m < lines; m++) {
                if (x.theta(l, m) == 1 || forksToo && x.tau(l, m) == 1) {
                    int kept = Math.min(first[l], first[m]);
                    int gone = Math.max(first[l], first[m]);
                    Arrays.setAll(first, i -> first[i] == gone ? kept : first[i]);
                }
            }
        }
        int[] numbers = Arrays.stream(first).distinct().sorted().toArray();
        return Arrays.stream(first).map(f -> Arrays.binarySearch(numbers, f)).toArray();
    }
}
