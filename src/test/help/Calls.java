/** Makes a call of an object by its name. */
final class Calls {
    private Calls() {
    }

    static long make(FactorNets x, String name, long... l) {
        int[] a = new int[5];
        for (int i = 0; i < l.length; i++) {
            a[i] = (int) l[i];
        }
        switch (name) {
            case "feed": return x.feed(a[0], a[1], a[2], a[3], a[4]);
            case "end": return x.end(a[0]);
            case "net": return x.net();
            case "fault": return x.fault(a[0]);
            case "count": return x.count(a[0]);
            case "line": return x.line(a[0], a[1]);
            case "between": return x.between(a[0], a[1]);
            case "beside": return x.beside(a[0]);
            case "far": return x.far(a[0], a[1]);
            case "ways": return x.ways(a[0], a[1]);
            case "amid": return x.amid(a[0], a[1]);
            case "theta": return x.theta(a[0], a[1]);
            case "tau": return x.tau(a[0], a[1]);
            case "first": return x.first(a[0]);
            case "layer": return x.layer(a[0], a[1]);
            case "size": return x.size(a[0]);
            case "corner": return x.corner(a[0], a[1]);
            case "at": return x.at(a[0], a[1]);
            case "moved": return x.moved(a[0], a[1], a[2]);
            case "partFar": return x.partFar(a[0], a[1], a[2]);
            case "alike": return x.alike(a[0], a[1]);
            case "symmetries": return x.symmetries(a[0]);
            case "allSymmetries": return x.allSymmetries();
            case "orbit": return x.orbit(a[0]);
            case "takes": return x.takes(a[0], a[1], a[2], a[3]);
            case "kind": return x.kind(a[0]);
            case "tell": return x.tell();
            case "octet": return x.octet(a[0]);
            case "route": return x.route(a[0], a[1], a[2]);
            case "moves": return x.moves(l[0], a[1]);
            case "fixers": return x.fixers(a[0]);
            case "orbits": return x.orbits();
            case "shell": return x.shell(a[0], a[1]);
            case "pairs": return x.pairs(a[0]);
            case "colours": return x.colours();
            case "partColours": return x.partColours(a[0]);
            case "trees": return x.trees();
            case "width": return x.width();
            case "wiener": return x.wiener();
            case "centre": return x.centre();
            case "even": return x.even();
            case "nearer": return x.nearer(a[0], a[1]);
            case "quotient": return x.quotient(a[0]);
            case "place": return x.place(a[0], a[1]);
            case "sideFar": return x.sideFar(a[0], a[1], a[2]);
            case "cubic": return x.cubic();
            case "hull": return x.hull(a[0]);
            case "median": return x.median(a[0], a[1], a[2]);
            case "medians": return x.medians();
            case "without": return x.without(a[0]);
            case "with": return x.with(a[0], a[1]);
            case "loosest": return x.loosest();
            case "join": return x.join(a[0], a[1]);
            case "cut": return x.cut(a[0]);
            case "times": return x.times(a[0], a[1]);
            case "keep": return x.keep(a[0]);
            case "image": return x.image(a[0]);
            case "back": return x.back(a[0]);
            case "undo": return x.undo();
            case "anew": return x.anew();
            default: throw new IllegalStateException(name);
        }
    }
}
