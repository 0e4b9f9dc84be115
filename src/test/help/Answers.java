import java.util.ArrayList;
import java.util.List;

/** Answers to all questions about a NET, each asked a few times: some hundred calls. */
final class Answers {
    private final List<Long> given = new ArrayList<>();
    private final FactorNets x;
    private final int last;

    private Answers(FactorNets x) {
        this.x = x;
        this.last = x.count(0) - 1;
    }

    static List<Long> of(FactorNets x) {
        Answers answers = new Answers(x);
        answers.askWhole();
        answers.askPoints();
        for (int line : new int[] {0, x.count(1) / 2, x.count(1) - 1}) {
            answers.askLine(line);
        }
        for (int part = 0; part <= x.count(3); part++) {
            answers.askPart(part);
        }
        answers.askSide(0);
        answers.askSide(x.count(4) - 1);
        return answers.given;
    }

    /** What an object answers must be what a new one answers that is told the same NET as a text. */
    static void dueAsTold(String call, FactorNets x) {
        FactorNets fresh = Texts.of(Texts.textOf(x));
        List<Long> want = of(fresh);
        List<Long> got = of(x);
        Checks.due("size of what is answered behind " + call, got.size(), want.size());
        for (int i = 0; i < got.size() && i < want.size(); i++) {
            Checks.due("answer " + i + " behind " + call, got.get(i), want.get(i));
        }
    }

    private void add(long... answers) {
        for (long answer : answers) {
            given.add(answer);
        }
    }

    private void askWhole() {
        add(x.count(0), x.count(1), x.count(3), x.count(4), x.allSymmetries(), x.orbits(), x.pairs(1), x.pairs(2));
        add(x.colours(), x.trees(), x.width(), x.wiener(), x.centre(), x.even(), x.cubic(), x.medians(), x.loosest());
        add(x.tell(), x.moves(1, 0), x.moves(1, last), x.moves(2, last), x.hull(1 | 1 << last));
    }

    private void askPoints() {
        for (int p : new int[] {0, last / 2, last, last + 1}) {
            add(x.beside(p), x.orbit(p), x.fixers(p), x.shell(p, 1), x.between(p, 0), x.far(p, last), x.ways(p, last));
            add(x.amid(p, last), x.with(p, last), x.takes(0, p, p, 0), x.median(0, p, last), x.route(p, last, 1));
        }
    }

    private void askLine(int line) {
        add(x.line(line, 0), x.line(line, 1), x.line(line, 2), x.line(line, 3), x.theta(line, 0), x.tau(line, 0));
        add(x.nearer(line, 0), x.nearer(line, 2), x.without(line));
    }

    private void askPart(int part) {
        add(x.first(part), x.size(part), x.layer(last, part), x.layer(0, part), x.corner(part, 1), x.at(last, part));
        add(x.moved(last, part, 0), x.partFar(part, 0, last), x.alike(0, part), x.symmetries(part), x.kind(part));
        add(x.partColours(part));
        for (int p = 0; p < last; p++) {
            add(x.at(p, part));
        }
    }

    private void askSide(int side) {
        add(x.quotient(side), x.place(last, side), x.sideFar(side, last, 0));
    }
}
