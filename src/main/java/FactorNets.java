import java.util.Arrays;

/** Nets of up to twenty points, told as a text, and the parts that they are products of. */
public final class FactorNets {
    public static final int NONE = -1;

    private static final int NO_SUCH = -2;
    private static final int FAULTY = -4;
    private static final int REFUSED = -5;
    private static final int NOTHING_KEPT = -6;

    private static final int MOST_POINTS = 20;
    private static final int MOST_LINES = 190;
    // Each part has two points or more, and 2 * 2 * 2 * 2 * 2 is more than 20.
    private static final int MOST_PARTS = 4;
    private static final int MOST_ACTS = 20;
    private static final int MOST_BYTES = 800;
    private static final int MOST_TOLD = 64;
    private static final int IMAGES = 3;
    // Each generator at least doubles the group, and 20! is less than two to the 62nd.
    private static final int MOST_GENERATORS = 64;
    private static final long MODULUS = 1000003L;

    private static final int ROW = 0;
    private static final int RING = 1;
    private static final int FULL = 2;
    private static final int OTHER = 3;

    private final Reader reader = new Reader();
    private final Survey now = new Survey();
    private final Survey whatIf = new Survey();
    private final Parts parts = new Parts();
    private final Past acts = new Past();
    private final Past[] images = new Past[IMAGES];
    private final Chain chain = new Chain(now);
    private final Chain partChain = new Chain(whatIf);
    private final Painter painter = new Painter();
    private final Net pieces = new Net();
    private final int[] pieceOf = new int[MOST_POINTS];
    private final int[] uncut = new int[MOST_POINTS];
    private final long[] tally = new long[MOST_POINTS];
    private final long[][] matrix = new long[MOST_POINTS][MOST_POINTS];
    private final char[] told = new char[MOST_TOLD];
    private int toldBytes;
    private boolean partsKnown;
    private boolean chainKnown;
    private int loosestLine = NO_SUCH;

    public FactorNets() {
        for (int k = 0; k < IMAGES; k++) {
            images[k] = new Past();
        }
    }

    // ---- The text ----

    public int feed(int a, int b, int c, int d, int e) {
        if (reader.length + 20 > MOST_BYTES) {
            return NONE;
        }
        reader.append(a);
        reader.append(b);
        reader.append(c);
        reader.append(d);
        reader.append(e);
        return reader.length;
    }

    public int end(int n) {
        if (n < 0 || n > reader.length) {
            return NONE;
        }
        reader.length = n;
        return n;
    }

    public int net() {
        reader.read();
        reader.length = 0;
        if (reader.fault != 0) {
            return FAULTY;
        }
        if (reader.net.points > 0 && !reader.net.connected()) {
            return REFUSED;
        }
        now.net.become(reader.net);
        acts.begin(reader.statements);
        forget();
        return now.net.points;
    }

    public int fault(int what) {
        if (what == 0) {
            return reader.fault;
        }
        return what == 1 ? reader.place : NONE;
    }

    public int count(int what) {
        switch (what) {
            case 0: return now.net.points;
            case 1: return now.net.lineCount();
            case 2: return acts.textLines;
            case 3: return now.sorted().parts;
            case 4: return now.sorted().sides;
            case 5: return acts.count;
            case 6: return reader.length;
            case 7: return toldBytes;
            default: return NONE;
        }
    }

    // ---- Points and lines ----

    public int line(int line, int what) {
        if (!isLine(line)) {
            return NO_SUCH;
        }
        switch (what) {
            case 0: return now.numbered().low[line];
            case 1: return now.numbered().high[line];
            case 2: return now.sorted().part[line];
            case 3: return now.sorted().side[line];
            default: return NO_SUCH;
        }
    }

    public int between(int point, int other) {
        return arePoints(point, other) ? now.numbered().number[point][other] : NO_SUCH;
    }

    public int beside(int point) {
        return isPoint(point) ? now.net.rows[point] : NO_SUCH;
    }

    public int far(int point, int other) {
        return arePoints(point, other) ? now.measured().steps[point][other] : NO_SUCH;
    }

    public long ways(int point, int other) {
        if (!arePoints(point, other)) {
            return NO_SUCH;
        }
        Metric metric = now.measured();
        Arrays.fill(tally, 0L);
        tally[point] = 1L;
        for (int d = 1; d <= metric.steps[point][other]; d++) {
            tallyShell(metric.shells[point][d], metric.shells[point][d - 1]);
        }
        return tally[other];
    }

    public int amid(int point, int other) {
        return arePoints(point, other) ? now.measured().interval(point, other) : NO_SUCH;
    }

    public int theta(int line, int other) {
        if (!isLine(line) || !isLine(other)) {
            return NO_SUCH;
        }
        Lines lines = now.numbered();
        int[] fromLow = now.measured().steps[lines.low[line]];
        int[] fromHigh = now.measured().steps[lines.high[line]];
        int straight = fromLow[lines.low[other]] + fromHigh[lines.high[other]];
        int crossed = fromLow[lines.high[other]] + fromHigh[lines.low[other]];
        return straight != crossed ? 1 : 0;
    }

    public int tau(int line, int other) {
        if (!isLine(line) || !isLine(other)) {
            return NO_SUCH;
        }
        Lines lines = now.numbered();
        int one = 1 << lines.low[line] | 1 << lines.high[line];
        int two = 1 << lines.low[other] | 1 << lines.high[other];
        int shared = one & two;
        if (line == other || shared == 0) {
            return 0;
        }
        int common = now.net.rows[lowest(one & ~shared)] & now.net.rows[lowest(two & ~shared)];
        return common == shared ? 1 : 0;
    }

    // ---- Parts ----

    public int first(int part) {
        if (now.net.points == 0 || part < 0) {
            return NO_SUCH;
        }
        Sorts sorts = now.sorted();
        for (int l = 0; l < now.lines.count; l++) {
            if (sorts.part[l] == part) {
                return l;
            }
        }
        return NONE;
    }

    public int layer(int point, int part) {
        return isPoint(point) && isPart(part) ? reach(parts.rows[part], point) : NO_SUCH;
    }

    public int size(int part) {
        return isPart(part) ? parts.sizes[part] : NO_SUCH;
    }

    public int corner(int part, int i) {
        if (!isPart(part) || i < 0) {
            return NO_SUCH;
        }
        return i < parts.sizes[part] ? parts.corners[part][i] : NONE;
    }

    public int at(int point, int part) {
        return isPoint(point) && isPart(part) ? parts.coordinates[part][point] : NO_SUCH;
    }

    public int moved(int point, int part, int other) {
        if (!arePoints(point, other) || !isPart(part)) {
            return NO_SUCH;
        }
        int layer = reach(parts.rows[part], point);
        for (int p = 0; p < now.net.points; p++) {
            boolean there = parts.coordinates[part][p] == parts.coordinates[part][other];
            if (there && (layer >> p & 1) != 0) {
                return p;
            }
        }
        return NO_SUCH;
    }

    public int partFar(int part, int point, int other) {
        return isPart(part) && arePoints(point, other) ? stepsInPart(part, point, other) : NO_SUCH;
    }

    public int alike(int part, int other) {
        if (!isPart(part) || !isPart(other)) {
            return NO_SUCH;
        }
        // Two parts of one size have at most 4 points each, as 5 * 5 is more than 20; and the
        // connected nets of up to 4 points are told apart by how many lines each point has.
        for (int degree = 1; degree < MOST_POINTS; degree++) {
            if (parts.pointsWith(part, degree) != parts.pointsWith(other, degree)) {
                return 0;
            }
        }
        return 1;
    }

    public int kind(int part) {
        return isPart(part) ? parts.shape(part) : NO_SUCH;
    }

    public int tell() {
        if (now.net.points == 0) {
            return NO_SUCH;
        }
        learnParts();
        toldBytes = 0;
        if (parts.count == 0) {
            write("one");
        }
        for (int k = 0; k < parts.count; k++) {
            if (k > 0) {
                write(" ");
            }
            writePart(k);
        }
        return toldBytes;
    }

    public int octet(int i) {
        return i >= 0 && i < toldBytes ? told[i] : NONE;
    }

    public int route(int point, int other, int i) {
        if (!arePoints(point, other) || i < 0) {
            return NO_SUCH;
        }
        learnParts();
        int here = point;
        int left = i;
        for (int k = 0; k < parts.count; k++) {
            for (int s = 0; s < MOST_POINTS && left > 0 && stepsInPart(k, here, other) > 0; s++) {
                here = nextInPart(k, here, other);
                left--;
            }
        }
        return left == 0 ? here : NONE;
    }

    // ---- Symmetries ----

    public long symmetries(int part) {
        if (!isPart(part)) {
            return NO_SUCH;
        }
        parts.extract(part, whatIf.net);
        whatIf.forget();
        partChain.learn();
        return partChain.order;
    }

    public long allSymmetries() {
        return now.net.points > 0 ? learnChain().order : NO_SUCH;
    }

    public int orbit(int point) {
        return isPoint(point) ? learnChain().closure(1 << point) : NO_SUCH;
    }

    public int takes(int a, int b, int c, int d) {
        if (!arePoints(a, b) || !arePoints(c, d)) {
            return NO_SUCH;
        }
        Search search = learnChain().search;
        search.begin();
        search.pin(a, b);
        search.pin(c, d);
        return Search.extend(search, 0, now.net.everyone()) ? 1 : 0;
    }

    public int moves(long k, int point) {
        if (!isPoint(point) || k < 0) {
            return NO_SUCH;
        }
        return k < learnChain().order ? chain.imageBy(k, point) : NONE;
    }

    public long fixers(int point) {
        if (!isPoint(point)) {
            return NO_SUCH;
        }
        int reached = Integer.bitCount(learnChain().closure(1 << point));
        return chain.order / Math.max(1, reached);
    }

    public int orbits() {
        if (now.net.points == 0) {
            return NO_SUCH;
        }
        learnChain();
        int found = 0;
        int seen = 0;
        for (int p = 0; p < now.net.points; p++) {
            if ((seen >> p & 1) == 0) {
                seen |= chain.closure(1 << p);
                found++;
            }
        }
        return found;
    }

    // ---- The net as a whole ----

    public int shell(int point, int d) {
        if (!isPoint(point) || d < 0) {
            return NO_SUCH;
        }
        return d < MOST_POINTS ? now.measured().shells[point][d] : 0;
    }

    public int pairs(int d) {
        if (now.net.points == 0 || d < 0) {
            return NO_SUCH;
        }
        if (d == 0 || d >= MOST_POINTS) {
            return 0;
        }
        int twice = 0;
        for (int p = 0; p < now.net.points; p++) {
            twice += Integer.bitCount(now.measured().shells[p][d]);
        }
        return twice / 2;
    }

    public int colours() {
        return now.net.points > 0 ? painter.fewest(now.net) : NO_SUCH;
    }

    public int partColours(int part) {
        if (!isPart(part)) {
            return NO_SUCH;
        }
        parts.extract(part, whatIf.net);
        whatIf.forget();
        return painter.fewest(whatIf.net);
    }

    public int trees() {
        if (now.net.points == 0) {
            return NO_SUCH;
        }
        // The last point's row and column are left out, as the matrix-tree theorem asks.
        int size = now.net.points - 1;
        for (int p = 0; p < size; p++) {
            for (int q = 0; q < size; q++) {
                matrix[p][q] = now.net.linked(p, q) ? MODULUS - 1 : 0;
            }
            matrix[p][p] = Integer.bitCount(now.net.rows[p]);
        }
        return (int) determinant(matrix, size);
    }

    public int width() {
        if (now.net.points == 0) {
            return NO_SUCH;
        }
        int widest = 0;
        for (int p = 0; p < now.net.points; p++) {
            widest = Math.max(widest, now.measured().reachOf(p));
        }
        return widest;
    }

    public int wiener() {
        if (now.net.points == 0) {
            return NO_SUCH;
        }
        int sum = 0;
        for (int p = 0; p < now.net.points; p++) {
            for (int q = 0; q < p; q++) {
                sum += now.measured().steps[p][q];
            }
        }
        return sum;
    }

    public int centre() {
        if (now.net.points == 0) {
            return NO_SUCH;
        }
        int least = MOST_POINTS;
        int set = 0;
        for (int p = 0; p < now.net.points; p++) {
            int reach = now.measured().reachOf(p);
            if (reach < least) {
                least = reach;
                set = 0;
            }
            if (reach == least) {
                set |= 1 << p;
            }
        }
        return set;
    }

    public int even() {
        if (now.net.points == 0) {
            return NO_SUCH;
        }
        return isEven() ? 1 : 0;
    }

    // ---- Sides ----

    public int nearer(int line, int what) {
        if (!isLine(line) || what < 0 || what > 2) {
            return NO_SUCH;
        }
        int low = now.numbered().low[line];
        int high = now.numbered().high[line];
        int near = now.measured().closer(low, high);
        int away = now.measured().closer(high, low);
        if (what == 2) {
            return now.net.everyone() & ~(near | away);
        }
        return what == 0 ? near : away;
    }

    public int quotient(int side) {
        if (!isSide(side)) {
            return NO_SUCH;
        }
        breakInPieces(side);
        return pieces.points;
    }

    public int place(int point, int side) {
        if (!isPoint(point) || !isSide(side)) {
            return NO_SUCH;
        }
        breakInPieces(side);
        return pieceOf[point];
    }

    public int sideFar(int side, int point, int other) {
        if (!isSide(side) || !arePoints(point, other)) {
            return NO_SUCH;
        }
        breakInPieces(side);
        linkPieces(side);
        return pieces.stepsBetween(pieceOf[point], pieceOf[other]);
    }

    public int cubic() {
        if (now.net.points == 0) {
            return NO_SUCH;
        }
        if (!isEven()) {
            return 0;
        }
        for (int s = 0; s < now.sorted().sides; s++) {
            breakInPieces(s);
            if (pieces.points != 2) {
                return 0;
            }
        }
        return 1;
    }

    public int hull(int set) {
        if (set == 0 || (set & ~now.net.everyone()) != 0) {
            return NO_SUCH;
        }
        int all = set;
        int done = 0;
        for (int i = 0; i < MOST_POINTS && all != done; i++) {
            int point = lowest(all & ~done);
            all |= intervals(point, done);
            done |= 1 << point;
        }
        return all;
    }

    public int median(int a, int b, int c) {
        return arePoints(a, b) && isPoint(c) ? middle(a, b, c) : NO_SUCH;
    }

    public int medians() {
        if (now.net.points == 0) {
            return NO_SUCH;
        }
        for (int a = 0; a < now.net.points; a++) {
            for (int b = 0; b < a; b++) {
                for (int c = 0; c < b; c++) {
                    if (Integer.bitCount(middle(a, b, c)) != 1) {
                        return 0;
                    }
                }
            }
        }
        return 1;
    }

    // ---- A line less, a line more ----

    public int without(int line) {
        return isLine(line) ? partsWithout(line) : NO_SUCH;
    }

    public int with(int point, int other) {
        if (!arePoints(point, other)) {
            return NO_SUCH;
        }
        if (point == other || now.net.linked(point, other)) {
            return NONE;
        }
        whatIf.net.become(now.net);
        whatIf.net.link(point, other);
        whatIf.forget();
        return whatIf.partCount();
    }

    public int loosest() {
        if (now.net.points == 0) {
            return NO_SUCH;
        }
        if (loosestLine == NO_SUCH) {
            loosestLine = findLoosest();
        }
        return loosestLine;
    }

    // ---- Acts ----

    public int join(int point, int other) {
        if (!arePoints(point, other)) {
            return NO_SUCH;
        }
        if (point == other || now.net.linked(point, other) || acts.count >= MOST_ACTS) {
            return REFUSED;
        }
        acts.push(now.net);
        now.net.link(point, other);
        forget();
        return now.net.lineCount();
    }

    public int cut(int line) {
        if (!isLine(line)) {
            return NO_SUCH;
        }
        whatIf.net.become(now.net);
        whatIf.net.unlink(now.lines.low[line], now.lines.high[line]);
        whatIf.forget();
        if (acts.count >= MOST_ACTS || !whatIf.net.connected()) {
            return REFUSED;
        }
        acts.push(now.net);
        now.net.become(whatIf.net);
        forget();
        return now.net.lineCount();
    }

    public int times(int kind, int n) {
        if (now.net.points == 0 || kind < ROW || kind > FULL || n < least(kind) || n > 10) {
            return NO_SUCH;
        }
        if (now.net.points * n > MOST_POINTS || acts.count >= MOST_ACTS) {
            return REFUSED;
        }
        acts.push(now.net);
        now.net.multiply(kind, n);
        forget();
        return now.net.points;
    }

    public int keep(int part) {
        if (!isPart(part)) {
            return NO_SUCH;
        }
        if (acts.count >= MOST_ACTS) {
            return REFUSED;
        }
        acts.push(now.net);
        parts.extract(part, now.net);
        forget();
        return now.net.points;
    }

    public int image(int k) {
        Past image = imageOf(k);
        if (image == null || now.net.points == 0) {
            return NO_SUCH;
        }
        image.become(acts);
        image.push(now.net);
        return 0;
    }

    public int back(int k) {
        Past image = imageOf(k);
        if (image == null) {
            return NO_SUCH;
        }
        if (image.count == 0) {
            return NOTHING_KEPT;
        }
        acts.become(image);
        acts.pop(now.net);
        forget();
        return 0;
    }

    public int undo() {
        if (now.net.points == 0) {
            return NO_SUCH;
        }
        if (acts.count == 0) {
            return REFUSED;
        }
        acts.pop(now.net);
        forget();
        return acts.count;
    }

    public int anew() {
        if (now.net.points == 0) {
            return NO_SUCH;
        }
        int undone = acts.count;
        if (undone > 0) {
            acts.count = 1;
            acts.pop(now.net);
            forget();
        }
        return undone;
    }

    // ---- What the answers need ----

    private void forget() {
        now.forget();
        partsKnown = false;
        chainKnown = false;
        loosestLine = NO_SUCH;
    }

    private void learnParts() {
        if (!partsKnown) {
            parts.learn(now, now.sorted());
            partsKnown = true;
        }
    }

    private Chain learnChain() {
        if (!chainKnown) {
            chain.learn();
            chainKnown = true;
        }
        return chain;
    }

    private boolean isPoint(int point) {
        return now.net.holds(point);
    }

    private boolean arePoints(int point, int other) {
        return now.net.holds(point) && now.net.holds(other);
    }

    private boolean isLine(int line) {
        return line >= 0 && line < now.numbered().count;
    }

    private boolean isPart(int part) {
        learnParts();
        return part >= 0 && part < parts.count;
    }

    private boolean isSide(int side) {
        return side >= 0 && side < now.sorted().sides;
    }

    private Past imageOf(int k) {
        return k >= 0 && k < IMAGES ? images[k] : null;
    }

    private void tallyShell(int shell, int before) {
        for (int p = 0; p < now.net.points; p++) {
            if ((shell >> p & 1) != 0) {
                tally[p] = tallyOf(now.net.rows[p] & before);
            }
        }
    }

    private long tallyOf(int set) {
        long sum = 0L;
        for (int p = 0; p < now.net.points; p++) {
            if ((set >> p & 1) != 0) {
                sum += tally[p];
            }
        }
        return sum;
    }

    // A layer keeps the net's distances, so those of the net between corners are the part's own.
    private int stepsInPart(int part, int point, int other) {
        int from = parts.corners[part][parts.coordinates[part][point]];
        int to = parts.corners[part][parts.coordinates[part][other]];
        return now.measured().steps[from][to];
    }

    private int nextInPart(int part, int point, int other) {
        int left = stepsInPart(part, point, other);
        for (int p = 0; p < now.net.points; p++) {
            boolean joined = (parts.rows[part][point] >> p & 1) != 0;
            if (joined && stepsInPart(part, p, other) < left) {
                return p;
            }
        }
        return point;
    }

    private boolean isEven() {
        Metric metric = now.measured();
        for (int p = 0; p < now.net.points; p++) {
            if ((now.net.rows[p] & metric.shells[0][metric.steps[0][p]]) != 0) {
                return false;
            }
        }
        return true;
    }

    private void breakInPieces(int side) {
        Sorts sorts = now.sorted();
        System.arraycopy(now.net.rows, 0, uncut, 0, MOST_POINTS);
        for (int l = 0; l < now.lines.count; l++) {
            if (sorts.side[l] == side) {
                uncut[now.lines.low[l]] &= ~(1 << now.lines.high[l]);
                uncut[now.lines.high[l]] &= ~(1 << now.lines.low[l]);
            }
        }
        int seen = 0;
        int found = 0;
        for (int p = 0; p < now.net.points; p++) {
            if ((seen >> p & 1) == 0) {
                int piece = reach(uncut, p);
                mark(pieceOf, piece, found);
                seen |= piece;
                found++;
            }
        }
        pieces.reset(found);
    }

    private void linkPieces(int side) {
        for (int l = 0; l < now.lines.count; l++) {
            int from = pieceOf[now.lines.low[l]];
            int to = pieceOf[now.lines.high[l]];
            if (now.sorts.side[l] == side && from != to) {
                pieces.link(from, to);
            }
        }
    }

    private int intervals(int point, int set) {
        int found = 0;
        for (int p = 0; p < now.net.points; p++) {
            if ((set >> p & 1) != 0) {
                found |= now.measured().interval(point, p);
            }
        }
        return found;
    }

    private int middle(int a, int b, int c) {
        Metric metric = now.measured();
        return metric.interval(a, b) & metric.interval(b, c) & metric.interval(c, a);
    }

    private int partsWithout(int line) {
        whatIf.net.become(now.net);
        whatIf.net.unlink(now.lines.low[line], now.lines.high[line]);
        whatIf.forget();
        return whatIf.net.connected() ? whatIf.partCount() : NONE;
    }

    private int findLoosest() {
        int most = primeFactors(now.net.points);
        int best = NONE;
        int found = NONE;
        for (int l = 0; l < now.numbered().count && best < most; l++) {
            int left = partsWithout(l);
            if (left > best) {
                best = left;
                found = l;
            }
        }
        return found;
    }

    private void writePart(int part) {
        switch (parts.shape(part)) {
            case ROW: write("row "); break;
            case RING: write("ring "); break;
            case FULL: write("full "); break;
            default: write("net "); break;
        }
        writeNumber(parts.sizes[part]);
        if (parts.shape(part) == OTHER) {
            write(" ");
            writeNumber(parts.linesOf(part));
        }
    }

    private void write(String text) {
        for (int i = 0; i < text.length(); i++) {
            writeSign(text.charAt(i));
        }
    }

    private void writeNumber(int number) {
        if (number >= 100) {
            writeSign((char) ('0' + number / 100 % 10));
        }
        if (number >= 10) {
            writeSign((char) ('0' + number / 10 % 10));
        }
        writeSign((char) ('0' + number % 10));
    }

    private void writeSign(char sign) {
        if (toldBytes < MOST_TOLD) {
            told[toldBytes] = sign;
            toldBytes++;
        }
    }

    // ---- Plain helpers ----

    // For a set that has a point alone: of none it would answer 32.
    private static int lowest(int set) {
        return Integer.bitCount((set & -set) - 1);
    }

    private static int reach(int[] rows, int start) {
        int seen = 1 << start;
        int open = seen;
        for (int i = 0; i < MOST_POINTS && open != 0; i++) {
            int more = rows[lowest(open)] & ~seen;
            open = (open & (open - 1)) | more;
            seen |= more;
        }
        return seen;
    }

    private static void mark(int[] row, int set, int number) {
        for (int p = 0; p < MOST_POINTS; p++) {
            if ((set >> p & 1) != 0) {
                row[p] = number;
            }
        }
    }

    private static int least(int kind) {
        return kind == RING ? 3 : 2;
    }

    private static int primeFactors(int number) {
        int found = 0;
        int rest = number;
        for (int factor = 2; factor <= MOST_POINTS; factor++) {
            for (int i = 0; i < 5 && rest % factor == 0; i++) {
                rest /= factor;
                found++;
            }
        }
        return found;
    }

    private static long determinant(long[][] rows, int size) {
        long product = 1L;
        for (int c = 0; c < size; c++) {
            int pivot = pivotOf(rows, c, size);
            if (pivot == NONE) {
                return 0L;
            }
            if (pivot != c) {
                swap(rows, pivot, c, size);
                product = MODULUS - product;
            }
            product = product * rows[c][c] % MODULUS;
            clearBelow(rows, c, size);
        }
        return product;
    }

    private static int pivotOf(long[][] rows, int c, int size) {
        for (int r = c; r < size; r++) {
            if (rows[r][c] != 0) {
                return r;
            }
        }
        return NONE;
    }

    private static void swap(long[][] rows, int r, int s, int size) {
        for (int c = 0; c < size; c++) {
            long held = rows[r][c];
            rows[r][c] = rows[s][c];
            rows[s][c] = held;
        }
    }

    private static void clearBelow(long[][] rows, int c, int size) {
        long inverse = power(rows[c][c], MODULUS - 2);
        for (int r = c + 1; r < size; r++) {
            if (rows[r][c] != 0) {
                long share = MODULUS - rows[r][c] * inverse % MODULUS;
                for (int i = c; i < size; i++) {
                    rows[r][i] = (rows[r][i] + share * rows[c][i]) % MODULUS;
                }
            }
        }
    }

    private static long power(long base, long exponent) {
        long result = 1L;
        long square = base;
        for (int i = 0; i < 20; i++) {
            if ((exponent >> i & 1L) != 0) {
                result = result * square % MODULUS;
            }
            square = square * square % MODULUS;
        }
        return result;
    }

    /** Points and, for each, those beside it as bits. No points: no net. */
    private static final class Net {
        int points;
        final int[] rows = new int[MOST_POINTS];

        void reset(int n) {
            points = n;
            Arrays.fill(rows, 0);
        }

        void become(Net other) {
            points = other.points;
            System.arraycopy(other.rows, 0, rows, 0, MOST_POINTS);
        }

        boolean holds(int point) {
            return point >= 0 && point < points;
        }

        int everyone() {
            return (1 << points) - 1;
        }

        boolean linked(int a, int b) {
            return (rows[a] >> b & 1) != 0;
        }

        void link(int a, int b) {
            rows[a] |= 1 << b;
            rows[b] |= 1 << a;
        }

        void unlink(int a, int b) {
            rows[a] &= ~(1 << b);
            rows[b] &= ~(1 << a);
        }

        int lineCount() {
            int ends = 0;
            for (int p = 0; p < points; p++) {
                ends += Integer.bitCount(rows[p]);
            }
            return ends / 2;
        }

        boolean connected() {
            return points > 0 && reach(rows, 0) == everyone();
        }

        int stepsBetween(int a, int b) {
            int seen = 1 << a;
            for (int d = 0; d < MOST_POINTS; d++) {
                if ((seen >> b & 1) != 0) {
                    return d;
                }
                seen |= besideAny(seen);
            }
            return NONE;
        }

        private int besideAny(int set) {
            int found = 0;
            for (int p = 0; p < points; p++) {
                if ((set >> p & 1) != 0) {
                    found |= rows[p];
                }
            }
            return found;
        }

        // From the last copy down, as the copies are made from the first one's rows.
        void multiply(int kind, int n) {
            int old = points;
            for (int q = n - 1; q >= 0; q--) {
                int copies = copiesBeside(kind, n, q);
                for (int p = 0; p < old; p++) {
                    rows[p + old * q] = rows[p] << old * q | spread(copies, p, old, n);
                }
            }
            points = old * n;
        }

        private static int copiesBeside(int kind, int n, int q) {
            int all = (1 << n) - 1;
            if (kind == FULL) {
                return all & ~(1 << q);
            }
            int beside = (1 << q << 1 | 1 << q >> 1) & all;
            if (kind == RING && q == 0) {
                beside |= 1 << n - 1;
            }
            if (kind == RING && q == n - 1) {
                beside |= 1;
            }
            return beside;
        }

        private static int spread(int copies, int p, int step, int n) {
            int set = 0;
            for (int q = 0; q < n; q++) {
                if ((copies >> q & 1) != 0) {
                    set |= 1 << p + step * q;
                }
            }
            return set;
        }
    }

    /** The tape, and the net that it tells. */
    private static final class Reader {
        private static final int END = 0;
        private static final int WORD = 1;
        private static final int NUMBER = 2;
        private static final int STOP = 3;
        private static final int NO_TOKEN = 4;
        // Far above every bound, and never so high that ten times it overflows.
        private static final int TOO_HIGH = 10000;

        final int[] tape = new int[MOST_BYTES];
        int length;
        final Net net = new Net();
        int statements;
        int fault;
        int place = NONE;
        private int start;
        private int behind;
        private int token;
        private int value;

        void append(int number) {
            for (int shift = 24; shift >= 0 && length < MOST_BYTES; shift -= 8) {
                tape[length] = number >> shift & 255;
                length++;
            }
        }

        void read() {
            net.reset(0);
            statements = 0;
            fault = 0;
            place = NONE;
            behind = 0;
            advance();
            for (int i = 0; i < MOST_BYTES && token != END && fault == 0; i++) {
                readStatement();
                if (fault == 0 && token != STOP) {
                    fail(1);
                }
                statements++;
                advance();
            }
        }

        private void readStatement() {
            int kind = kindOfWord();
            if (kind != NONE) {
                advance();
                readProduct(kind);
            } else if (statements == 0 && isWord("net")) {
                advance();
                readPoints();
            } else if (statements > 0 && isWord("line")) {
                advance();
                readLine();
            } else {
                fail(1);
            }
        }

        private int kindOfWord() {
            if (isWord("row")) {
                return ROW;
            }
            if (isWord("ring")) {
                return RING;
            }
            return isWord("full") ? FULL : NONE;
        }

        private void readProduct(int kind) {
            int n = readNumber(least(kind), MOST_POINTS);
            int old = statements == 0 ? 1 : net.points;
            if (fault == 0 && old * n > MOST_POINTS) {
                fail(3);
            }
            if (fault == 0) {
                net.points = old;
                net.multiply(kind, n);
                advance();
            }
        }

        private void readPoints() {
            if (!isWord("points")) {
                fail(1);
                return;
            }
            advance();
            int n = readNumber(1, MOST_POINTS);
            if (fault == 0) {
                net.points = n;
                advance();
            }
        }

        private void readLine() {
            int a = readNumber(0, net.points - 1);
            if (fault != 0) {
                return;
            }
            advance();
            int b = readNumber(0, net.points - 1);
            if (fault == 0 && (a == b || net.linked(a, b))) {
                fail(2);
            }
            if (fault == 0) {
                net.link(a, b);
                advance();
            }
        }

        private int readNumber(int low, int high) {
            if (token != NUMBER) {
                fail(1);
            } else if (value < low || value > high) {
                fail(2);
            }
            return value;
        }

        private void fail(int number) {
            fault = number;
            place = start;
        }

        private void advance() {
            start = behind;
            for (int i = 0; i < MOST_BYTES && (signAt(start) == ' ' || signAt(start) == '\n'); i++) {
                start++;
            }
            behind = start + 1;
            int sign = signAt(start);
            if (isLetter(sign)) {
                token = WORD;
                passWord();
            } else if (isDigit(sign)) {
                token = NUMBER;
                passNumber();
            } else if (sign == ';') {
                token = STOP;
            } else {
                token = sign == NONE ? END : NO_TOKEN;
            }
        }

        private void passWord() {
            for (int i = 0; i < MOST_BYTES && isLetter(signAt(behind)); i++) {
                behind++;
            }
        }

        private void passNumber() {
            value = signAt(start) - '0';
            for (int i = 0; i < MOST_BYTES && isDigit(signAt(behind)); i++) {
                value = Math.min(TOO_HIGH, value * 10 + signAt(behind) - '0');
                behind++;
            }
        }

        private boolean isWord(String word) {
            if (token != WORD || behind - start != word.length()) {
                return false;
            }
            for (int i = 0; i < word.length(); i++) {
                if (signAt(start + i) != word.charAt(i)) {
                    return false;
                }
            }
            return true;
        }

        private int signAt(int i) {
            return i >= 0 && i < length && i < MOST_BYTES ? tape[i] : NONE;
        }

        private static boolean isLetter(int sign) {
            return sign >= 'a' && sign <= 'z';
        }

        private static boolean isDigit(int sign) {
            return sign >= '0' && sign <= '9';
        }
    }

    /**
     * How a net came to be: the lines of the text that told it, and the nets before each act;
     * an image has the net itself on top of them.
     */
    private static final class Past {
        int textLines;
        int count;
        private final int[] points = new int[MOST_ACTS + 1];
        private final int[][] rows = new int[MOST_ACTS + 1][MOST_POINTS];

        void begin(int statements) {
            textLines = statements;
            count = 0;
        }

        void become(Past other) {
            textLines = other.textLines;
            count = other.count;
            for (int i = 0; i < count; i++) {
                points[i] = other.points[i];
                System.arraycopy(other.rows[i], 0, rows[i], 0, MOST_POINTS);
            }
        }

        void push(Net net) {
            if (count <= MOST_ACTS) {
                points[count] = net.points;
                System.arraycopy(net.rows, 0, rows[count], 0, MOST_POINTS);
                count++;
            }
        }

        void pop(Net net) {
            if (count > 0) {
                count--;
                net.points = points[count];
                System.arraycopy(rows[count], 0, net.rows, 0, MOST_POINTS);
            }
        }
    }

    /** How far all points of a connected net are apart. */
    private static final class Metric {
        final int[][] steps = new int[MOST_POINTS][MOST_POINTS];
        final int[][] shells = new int[MOST_POINTS][MOST_POINTS];

        void learnFrom(Net net, int from) {
            Arrays.fill(shells[from], 0);
            int shell = 1 << from;
            int seen = shell;
            for (int d = 0; d < MOST_POINTS && shell != 0; d++) {
                shells[from][d] = shell;
                int beside = 0;
                for (int i = 0; i < MOST_POINTS && shell != 0; i++) {
                    int p = lowest(shell);
                    steps[from][p] = d;
                    beside |= net.rows[p];
                    shell &= shell - 1;
                }
                shell = beside & ~seen;
                seen |= shell;
            }
        }

        int reachOf(int point) {
            for (int d = MOST_POINTS - 1; d > 0; d--) {
                if (shells[point][d] != 0) {
                    return d;
                }
            }
            return 0;
        }

        int interval(int a, int b) {
            int length = steps[a][b];
            int set = 0;
            for (int d = 0; d <= length; d++) {
                set |= shells[a][d] & shells[b][length - d];
            }
            return set;
        }

        // For the ends of a line alone: no point is then nearer to one of them by more than one.
        int closer(int a, int b) {
            int set = 0;
            for (int d = 0; d < MOST_POINTS - 1 && shells[a][d] != 0; d++) {
                set |= shells[a][d] & shells[b][d + 1];
            }
            return set;
        }
    }

    /** The lines of a net by number. */
    private static final class Lines {
        int count;
        final int[] low = new int[MOST_LINES];
        final int[] high = new int[MOST_LINES];
        final int[][] number = new int[MOST_POINTS][MOST_POINTS];

        void learn(Net net) {
            count = 0;
            for (int a = 0; a < net.points; a++) {
                number[a][a] = NONE;
                for (int b = a + 1; b < net.points; b++) {
                    int found = NONE;
                    if (net.linked(a, b) && count < MOST_LINES) {
                        low[count] = a;
                        high[count] = b;
                        found = count;
                        count++;
                    }
                    number[a][b] = found;
                    number[b][a] = found;
                }
            }
        }
    }

    /** The lines sorted into sides and into parts. */
    private static final class Sorts {
        int sides;
        int parts;
        final int[] side = new int[MOST_LINES];
        final int[] part = new int[MOST_LINES];
        private final int[] parent = new int[MOST_LINES];
        private int groups;

        void learn(Net net, Metric metric, Lines lines) {
            separate(lines.count);
            for (int l = 0; l < lines.count && groups > 1; l++) {
                uniteAcross(net, metric, lines, l);
            }
            sides = groups;
            label(side, lines.count);
            uniteForks(net, lines);
            parts = groups;
            label(part, lines.count);
        }

        // Forks first: they are found sooner, and often leave little to do.
        int countParts(Net net, Metric metric, Lines lines) {
            separate(lines.count);
            uniteForks(net, lines);
            for (int l = 0; l < lines.count && groups > 1; l++) {
                uniteAcross(net, metric, lines, l);
            }
            return groups;
        }

        private void separate(int lines) {
            groups = lines;
            for (int l = 0; l < lines; l++) {
                parent[l] = l;
            }
        }

        // A line is over against this one just if its ends are not in the same one of three
        // sets: nearer to the one end of this line, nearer to the other, as far from both.
        private void uniteAcross(Net net, Metric metric, Lines lines, int line) {
            int near = metric.closer(lines.low[line], lines.high[line]);
            int away = metric.closer(lines.high[line], lines.low[line]);
            int same = net.everyone() & ~(near | away);
            for (int p = 0; p < net.points; p++) {
                int own = (near >> p & 1) != 0 ? near : (away >> p & 1) != 0 ? away : same;
                int across = net.rows[p] & ~own & -2 << p;
                for (int i = 0; i < MOST_POINTS && across != 0; i++) {
                    unite(line, lines.number[p][lowest(across)]);
                    across &= across - 1;
                }
            }
        }

        private void uniteForks(Net net, Lines lines) {
            for (int a = 0; a < net.points && groups > 1; a++) {
                for (int b = a + 1; b < net.points; b++) {
                    int common = net.rows[a] & net.rows[b];
                    if (Integer.bitCount(common) == 1) {
                        int fork = lowest(common);
                        unite(lines.number[fork][a], lines.number[fork][b]);
                    }
                }
            }
        }

        // The lesser root stays, so that each group's root is its first line.
        private void unite(int line, int other) {
            int one = root(line);
            int two = root(other);
            if (one != two) {
                parent[Math.max(one, two)] = Math.min(one, two);
                groups--;
            }
        }

        private int root(int line) {
            int l = line;
            for (int i = 0; i < MOST_LINES && parent[l] != l; i++) {
                parent[l] = parent[parent[l]];
                l = parent[l];
            }
            return l;
        }

        private void label(int[] labels, int lines) {
            int next = 0;
            for (int l = 0; l < lines; l++) {
                int first = root(l);
                if (first == l) {
                    labels[l] = next;
                    next++;
                } else {
                    labels[l] = labels[first];
                }
            }
        }
    }

    /** A net with what is known of it; each is found when it is first asked for. */
    private static final class Survey {
        final Net net = new Net();
        final Metric metric = new Metric();
        final Lines lines = new Lines();
        final Sorts sorts = new Sorts();
        private boolean isMeasured;
        private boolean isNumbered;
        private boolean isSorted;

        void forget() {
            isMeasured = false;
            isNumbered = false;
            isSorted = false;
        }

        Metric measured() {
            if (!isMeasured) {
                for (int p = 0; p < net.points; p++) {
                    metric.learnFrom(net, p);
                }
                isMeasured = true;
            }
            return metric;
        }

        Lines numbered() {
            if (!isNumbered) {
                lines.learn(net);
                isNumbered = true;
            }
            return lines;
        }

        Sorts sorted() {
            if (!isSorted) {
                sorts.learn(net, measured(), numbered());
                isSorted = true;
            }
            return sorts;
        }

        // For a net that is asked nothing else: it is not sorted by this. A product of a points
        // by b has at most a * b * (a + b - 2) / 2 lines, the most of them where a is 2; a net
        // with more, or with a prime number of points, needs no sorting.
        int partCount() {
            if (net.lineCount() * 4 > net.points * net.points || primeFactors(net.points) == 1) {
                return 1;
            }
            return sorts.countParts(net, measured(), numbered());
        }
    }

    /** The layers of point 0 by all parts, and each point's coordinates. */
    private static final class Parts {
        int count;
        final int[] sizes = new int[MOST_PARTS];
        final int[][] rows = new int[MOST_PARTS][MOST_POINTS];
        final int[][] corners = new int[MOST_PARTS][MOST_POINTS];
        final int[][] coordinates = new int[MOST_PARTS][MOST_POINTS];
        private final int[] others = new int[MOST_POINTS];

        void learn(Survey survey, Sorts sorts) {
            count = Math.min(MOST_PARTS, sorts.parts);
            for (int k = 0; k < count; k++) {
                Arrays.fill(rows[k], 0);
            }
            for (int l = 0; l < survey.lines.count; l++) {
                if (sorts.part[l] < MOST_PARTS) {
                    int[] own = rows[sorts.part[l]];
                    own[survey.lines.low[l]] |= 1 << survey.lines.high[l];
                    own[survey.lines.high[l]] |= 1 << survey.lines.low[l];
                }
            }
            for (int k = 0; k < count; k++) {
                learnCorners(survey.net, k);
            }
        }

        private void learnCorners(Net net, int part) {
            for (int p = 0; p < net.points; p++) {
                others[p] = net.rows[p] & ~rows[part][p];
            }
            int layer = reach(rows[part], 0);
            int found = 0;
            for (int p = 0; p < net.points; p++) {
                if ((layer >> p & 1) != 0) {
                    corners[part][found] = p;
                    mark(coordinates[part], reach(others, p), found);
                    found++;
                }
            }
            sizes[part] = found;
        }

        int linesOf(int part) {
            int ends = 0;
            for (int i = 0; i < sizes[part]; i++) {
                ends += degree(part, i);
            }
            return ends / 2;
        }

        int pointsWith(int part, int degree) {
            int found = 0;
            for (int i = 0; i < sizes[part]; i++) {
                if (degree(part, i) == degree) {
                    found++;
                }
            }
            return found;
        }

        private int degree(int part, int i) {
            return Integer.bitCount(rows[part][corners[part][i]]);
        }

        int shape(int part) {
            int size = sizes[part];
            int lines = linesOf(part);
            boolean thin = pointsWith(part, 1) + pointsWith(part, 2) == size;
            if (thin && lines == size - 1) {
                return ROW;
            }
            if (lines == size * (size - 1) / 2) {
                return FULL;
            }
            return thin && lines == size ? RING : OTHER;
        }

        void extract(int part, Net into) {
            into.reset(sizes[part]);
            for (int i = 0; i < sizes[part]; i++) {
                for (int j = 0; j < i; j++) {
                    if ((rows[part][corners[part][i]] >> corners[part][j] & 1) != 0) {
                        into.link(i, j);
                    }
                }
            }
        }
    }

    /** Looks for a symmetry of a net that takes some points where they are wanted. */
    private static final class Search {
        final int[] found = new int[MOST_POINTS];
        private final Survey survey;
        private final int[][] could = new int[MOST_POINTS + 1][MOST_POINTS];
        private final int[] kin = new int[MOST_POINTS];
        private final int[] counts = new int[MOST_POINTS];

        Search(Survey survey) {
            this.survey = survey;
        }

        // Points that differ in how many lines they have to some set of kin cannot be swapped;
        // what is left of the kin keeps the search from trying most of what must fail.
        void learnKin() {
            Net net = survey.net;
            for (int p = 0; p < net.points; p++) {
                kin[p] = net.everyone();
            }
            boolean changed = true;
            for (int round = 0; round < MOST_POINTS && changed; round++) {
                changed = false;
                for (int s = 0; s < net.points; s++) {
                    if (lowest(kin[s]) == s && splitBy(net, kin[s])) {
                        changed = true;
                    }
                }
            }
        }

        private boolean splitBy(Net net, int set) {
            for (int p = 0; p < net.points; p++) {
                counts[p] = Integer.bitCount(net.rows[p] & set);
            }
            boolean changed = false;
            for (int p = 0; p < net.points; p++) {
                int left = kin[p] & withCount(net, counts[p]);
                if (left != kin[p]) {
                    kin[p] = left;
                    changed = true;
                }
            }
            return changed;
        }

        private int withCount(Net net, int wanted) {
            int set = 0;
            for (int p = 0; p < net.points; p++) {
                if (counts[p] == wanted) {
                    set |= 1 << p;
                }
            }
            return set;
        }

        void begin() {
            System.arraycopy(kin, 0, could[0], 0, MOST_POINTS);
        }

        void pin(int point, int image) {
            narrow(could[0], could[0], point, image);
        }

        private void narrow(int[] from, int[] into, int point, int image) {
            int[] away = survey.metric.steps[point];
            int[] shells = survey.metric.shells[image];
            for (int p = 0; p < survey.net.points; p++) {
                into[p] = from[p] & shells[away[p]];
            }
        }

        private static boolean extend(Search search, int depth, int open) {
            if (open == 0) {
                return true;
            }
            if (depth >= MOST_POINTS) {
                return false;
            }
            int point = search.tightest(depth, open);
            int[] here = search.could[depth];
            for (int image = 0; image < search.survey.net.points; image++) {
                if ((here[point] >> image & 1) != 0) {
                    search.found[point] = image;
                    search.narrow(here, search.could[depth + 1], point, image);
                    if (extend(search, depth + 1, open & ~(1 << point))) {
                        return true;
                    }
                }
            }
            return false;
        }

        private int tightest(int depth, int open) {
            int best = 0;
            int fewest = MOST_POINTS + 1;
            for (int p = 0; p < survey.net.points && fewest > 1; p++) {
                int choices = Integer.bitCount(could[depth][p]);
                if ((open >> p & 1) != 0 && choices < fewest) {
                    fewest = choices;
                    best = p;
                }
            }
            return best;
        }
    }

    /**
     * All symmetries of a net: for each point, where those that leave all lesser ones in
     * place can take it, and by which generator, from which place, each such place is reached.
     */
    private static final class Chain {
        long order;
        final Search search;
        private final Survey survey;
        private final int[][] generators = new int[MOST_GENERATORS][MOST_POINTS];
        private int generatorCount;
        private final int[] places = new int[MOST_POINTS];
        private final int[][] lastBy = new int[MOST_POINTS][MOST_POINTS];
        private final int[][] lastFrom = new int[MOST_POINTS][MOST_POINTS];
        private final int[] image = new int[MOST_POINTS];
        private final int[] held = new int[MOST_POINTS];

        Chain(Survey survey) {
            this.survey = survey;
            this.search = new Search(survey);
        }

        // From the last point down: the generators of later points spare most searches.
        void learn() {
            survey.measured();
            search.learnKin();
            generatorCount = 0;
            order = 1L;
            for (int p = survey.net.points - 1; p >= 0; p--) {
                learnPlaces(p);
                order *= Integer.bitCount(places[p]);
            }
        }

        private void learnPlaces(int point) {
            places[point] = 1 << point;
            int failed = 0;
            for (int to = point + 1; to < survey.net.points; to++) {
                if (((places[point] | failed) >> to & 1) == 0) {
                    if (findTaker(point, to)) {
                        addGenerator();
                        growPlaces(point);
                    } else {
                        failed |= closure(1 << to);
                    }
                }
            }
        }

        private boolean findTaker(int point, int to) {
            search.begin();
            for (int p = 0; p < point; p++) {
                search.pin(p, p);
            }
            search.pin(point, to);
            return Search.extend(search, 0, survey.net.everyone());
        }

        private void addGenerator() {
            if (generatorCount < MOST_GENERATORS) {
                System.arraycopy(search.found, 0, generators[generatorCount], 0, MOST_POINTS);
                generatorCount++;
            }
        }

        private void growPlaces(int point) {
            int open = places[point];
            for (int i = 0; i < MOST_POINTS && open != 0; i++) {
                int from = lowest(open);
                open &= open - 1;
                for (int g = 0; g < generatorCount; g++) {
                    int to = generators[g][from];
                    if ((places[point] >> to & 1) == 0) {
                        lastBy[point][to] = g;
                        lastFrom[point][to] = from;
                        places[point] |= 1 << to;
                        open |= 1 << to;
                    }
                }
            }
        }

        int closure(int set) {
            int all = set;
            int open = set;
            for (int i = 0; i < MOST_POINTS && open != 0; i++) {
                int from = lowest(open);
                open &= open - 1;
                for (int g = 0; g < generatorCount; g++) {
                    int to = 1 << generators[g][from];
                    if ((all & to) == 0) {
                        all |= to;
                        open |= to;
                    }
                }
            }
            return all;
        }

        // Symmetries that agree on the lesser points stand together in their order, as many
        // for each place of the next point as leave it and all lesser ones where they are.
        int imageBy(long k, int point) {
            for (int p = 0; p < MOST_POINTS; p++) {
                image[p] = p;
            }
            long rest = k;
            long each = order;
            for (int p = 0; p <= point; p++) {
                each /= Math.max(1, Integer.bitCount(places[p]));
                long index = rest / Math.max(1L, each);
                rest -= index * each;
                takeFirst(p, sourceOf(imagesOf(places[p]), index));
            }
            return image[point];
        }

        // What the generators do comes before what the image did, the last of them latest.
        private void takeFirst(int point, int to) {
            int place = to;
            for (int i = 0; i < MOST_POINTS && place != point; i++) {
                int[] generator = generators[lastBy[point][place]];
                for (int p = 0; p < survey.net.points; p++) {
                    held[p] = image[generator[p]];
                }
                System.arraycopy(held, 0, image, 0, MOST_POINTS);
                place = lastFrom[point][place];
            }
        }

        private int imagesOf(int set) {
            int images = 0;
            for (int p = 0; p < survey.net.points; p++) {
                if ((set >> p & 1) != 0) {
                    images |= 1 << image[p];
                }
            }
            return images;
        }

        private int sourceOf(int images, long index) {
            int left = images;
            for (int i = 0; i < MOST_POINTS && i < index; i++) {
                left &= left - 1;
            }
            int wanted = lowest(left);
            for (int p = 0; p < survey.net.points; p++) {
                if (image[p] == wanted) {
                    return p;
                }
            }
            return 0;
        }
    }

    /** Finds with how few colours a net can be painted. */
    private static final class Painter {
        private final int[] painted = new int[MOST_POINTS + 1];
        private int limit;

        int fewest(Net net) {
            for (int colours = 1; colours < net.points; colours++) {
                Arrays.fill(painted, 0);
                limit = colours;
                if (paint(this, net, 0, net.everyone(), 0)) {
                    return colours;
                }
            }
            return net.points;
        }

        private static boolean paint(Painter painter, Net net, int depth, int open, int used) {
            if (open == 0) {
                return true;
            }
            if (depth >= MOST_POINTS) {
                return false;
            }
            int point = painter.tightest(net, open, used);
            int bit = 1 << point;
            // One colour not used yet is as good as another.
            for (int c = 0; c <= used && c < painter.limit; c++) {
                if ((net.rows[point] & painter.painted[c]) == 0) {
                    painter.painted[c] |= bit;
                    if (paint(painter, net, depth + 1, open & ~bit, Math.max(used, c + 1))) {
                        return true;
                    }
                    painter.painted[c] &= ~bit;
                }
            }
            return false;
        }

        private int tightest(Net net, int open, int used) {
            int best = 0;
            int most = NONE;
            for (int p = 0; p < net.points; p++) {
                if ((open >> p & 1) != 0) {
                    int rank = barred(net.rows[p], used) * 32 + Integer.bitCount(net.rows[p] & open);
                    if (rank > most) {
                        most = rank;
                        best = p;
                    }
                }
            }
            return best;
        }

        private int barred(int row, int used) {
            int found = 0;
            for (int c = 0; c < used; c++) {
                if ((row & painted[c]) != 0) {
                    found++;
                }
            }
            return found;
        }
    }
}
