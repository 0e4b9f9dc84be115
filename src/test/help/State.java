import java.util.ArrayList;
import java.util.List;

/** What an object shows of its NET, its acts and OUT, to be compared with what it shows later. */
final class State {
    private final List<Long> shown = new ArrayList<>();

    private State() {
    }

    /** The tape is not of it: net() empties that in any case. */
    static State of(FactorNets x) {
        State state = new State();
        for (int what = 0; what < 8; what++) {
            if (what != 6) {
                state.shown.add((long) x.count(what));
            }
        }
        for (int p = 0; p < 20; p++) {
            state.shown.add((long) x.beside(p));
        }
        for (int i = 0; i < x.count(7) && i < 12; i++) {
            state.shown.add((long) x.octet(i));
        }
        return state;
    }

    void dueStill(String call, FactorNets x) {
        List<Long> now = of(x).shown;
        Checks.due("what is shown behind " + call + ": " + now + " for " + shown, now.equals(shown) ? 1 : 0, 1);
    }
}
