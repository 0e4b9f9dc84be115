/** What every question and act answers where there is no NET. */
final class NoNet {
    private NoNet() {
    }

    static void dueOf(String name, FactorNets x) {
        long[] answers = {x.line(0, 0), x.between(0, 0), x.beside(0), x.far(0, 0), x.ways(0, 0), x.amid(0, 0),
            x.theta(0, 0), x.tau(0, 0), x.first(0), x.layer(0, 0), x.size(0), x.corner(0, 0), x.at(0, 0),
            x.moved(0, 0, 0), x.partFar(0, 0, 0), x.alike(0, 0), x.symmetries(0), x.allSymmetries(), x.orbit(0),
            x.takes(0, 0, 0, 0), x.kind(0), x.tell(), x.route(0, 0, 0), x.moves(0, 0), x.fixers(0), x.orbits(),
            x.shell(0, 0), x.pairs(0), x.colours(), x.partColours(0), x.trees(), x.width(), x.wiener(), x.centre(),
            x.even(), x.nearer(0, 0), x.quotient(0), x.place(0, 0), x.sideFar(0, 0, 0), x.cubic(), x.hull(1),
            x.median(0, 0, 0), x.medians(), x.without(0), x.with(0, 1), x.loosest(), x.join(0, 1), x.cut(0),
            x.times(0, 2), x.keep(0), x.image(0), x.undo(), x.anew()};
        for (int i = 0; i < answers.length; i++) {
            Checks.due("question " + i + " of " + name, answers[i], -2);
        }
    }
}
