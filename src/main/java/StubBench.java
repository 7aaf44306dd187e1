import java.util.NoSuchElementException;

public final class StubBench {
    public static final int NONE = -1;

    private static final int MOST_ELEMENTS = 4;
    private static final int SHELVES = 4;
    private static final int LINE = 0;
    private static final int OPEN_ACROSS = 1;
    private static final int SHUT_ACROSS = 2;
    private static final int OPEN_ALONG = 3;
    private static final int SHUT_ALONG = 4;
    private static final int MOST_HARMONIC = 3;
    private static final int MOST_BESIDE = 10;
    private static final long ENDLESS_IN_THOUSANDTHS = 1_000_000_000L;

    private final Tangents tangents = new Tangents();
    private final Chain chain = new Chain();
    private final Chain other = new Chain();
    private final Shelf[] shelves = new Shelf[SHELVES];
    private int limitUpper = 1;
    private int limitLower = 10;

    // Rows and numbers that every call uses again, so that a long run makes few objects.
    private final Wave wave = new Wave();
    private final Wave start = new Wave();
    private final Wave trial = new Wave();
    private final Point point = new Point();
    private final Fraction answer = new Fraction();
    private final Places spots = new Places();
    private final Pair pair = new Pair();
    private final Best found = new Best();
    private final Span span = new Span();
    private final Big above = new Big();
    private final Big below = new Big();
    private final int[] order = new int[MOST_ELEMENTS];
    private final int[] bestOrder = new int[MOST_ELEMENTS];

    public StubBench() {
        for (int i = 0; i < SHELVES; i++) {
            shelves[i] = new Shelf();
        }
    }

    // ---- the chain -------------------------------------------------------------------------

    public void load(int a, int b, int d) throws IllegalArgumentException {
        if (!isLoad(a, b, d)) {
            throw new IllegalArgumentException();
        }
        chain.putLoad(a, b, d);
    }

    public int add(int sort, int p, int q) throws IllegalArgumentException, IllegalStateException {
        if (sort < LINE || sort > SHUT_ALONG) {
            throw new IllegalArgumentException();
        }
        needTangent(p, q);
        if (chain.size >= MOST_ELEMENTS) {
            throw new IllegalStateException();
        }
        chain.append(sort, p, q);
        return chain.size - 1;
    }

    public int drop() throws IllegalStateException {
        if (chain.size <= 0) {
            throw new IllegalStateException();
        }
        chain.size--;
        return chain.size;
    }

    public void trim(int element, int p, int q) throws IndexOutOfBoundsException, IllegalArgumentException {
        needElement(element);
        needTangent(p, q);
        chain.turn(element, p, q);
    }

    public void limit(int u, int v) throws IllegalArgumentException {
        if (u < 0 || v < 1 || v > 20 || u >= v) {
            throw new IllegalArgumentException();
        }
        limitUpper = u;
        limitLower = v;
    }

    public int element(int element, int what) throws IndexOutOfBoundsException, NoSuchElementException {
        needElement(element);
        needWhat(what, 2);
        if (what == 0) {
            return chain.sortOf(element);
        }
        return what == 1 ? chain.upperOf(element) : chain.lowerOf(element);
    }

    public void dual() throws IllegalStateException {
        if (!point.takeTurned(chain.a, chain.b, chain.d)) {
            throw new IllegalStateException();
        }
        // A point's numbers are 1,000 at most, so the casts lose nothing.
        if (!isLoad((int) point.a, (int) point.b, (int) point.d)) {
            throw new IllegalStateException();
        }
        chain.putLoad((int) point.a, (int) point.b, (int) point.d);
        for (int i = 0; i < chain.size; i++) {
            chain.turnSort(i);
        }
    }

    public int keep(int shelf) throws IndexOutOfBoundsException {
        needShelf(shelf);
        shelves[shelf].full = true;
        shelves[shelf].kept.take(chain);
        return chain.size;
    }

    public int bring(int shelf) throws IndexOutOfBoundsException, IllegalStateException {
        needShelf(shelf);
        if (!shelves[shelf].full) {
            throw new IllegalStateException();
        }
        chain.take(shelves[shelf].kept);
        return chain.size;
    }

    // ---- what is seen, and how much comes back ----------------------------------------------

    public long seen(int mark, boolean x, boolean lower) throws IndexOutOfBoundsException, IllegalStateException {
        needMark(mark);
        look(chain, mark, wave);
        if (wave.hasNoEnd()) {
            throw new IllegalStateException();
        }
        answer.put(x ? wave.imaginary() : wave.realPart(), wave.lowerSquare());
        return answer.told(lower);
    }

    public boolean isEndless(int mark) throws IndexOutOfBoundsException {
        needMark(mark);
        look(chain, mark, wave);
        return wave.hasNoEnd();
    }

    public long echo(int mark, boolean lower) throws IndexOutOfBoundsException {
        needMark(mark);
        look(chain, mark, wave);
        answer.put(wave.echoUpper(), wave.echoLower());
        return answer.told(lower);
    }

    public int parts(int n, boolean beside) throws IllegalArgumentException {
        needVariant(n, beside);
        lookVariant(chain, n, beside);
        return partsOfWave();
    }

    public boolean isWithin(int n, boolean beside) throws IllegalArgumentException {
        needVariant(n, beside);
        lookVariant(chain, n, beside);
        return isWaveWithin();
    }

    // ---- tangents ----------------------------------------------------------------------------

    public int half(int p, int q, boolean lower) throws IllegalArgumentException, IllegalStateException {
        needTangent(p, q);
        long square = (long) p * p + (long) q * q;
        long root = Fraction.rootOf(square);
        if (root * root != square && p != 0) {
            throw new IllegalStateException();
        }
        if (p == 0) {
            answer.put(0, 1);
        } else if (p > 0) {
            answer.put(root - q, p);
        } else {
            answer.put(root + q, -p);
        }
        return (int) answer.told(lower);
    }

    public int times(int p, int q, int n, boolean lower) throws IllegalArgumentException {
        needTangent(p, q);
        if (n < 1 || n > 4) {
            throw new IllegalArgumentException();
        }
        answer.putTimes(p, q, n);
        return (int) answer.told(lower);
    }

    public int together(int p, int q, int r, int s, boolean lower) throws IllegalArgumentException {
        needTangent(p, q);
        needTangent(r, s);
        answer.put(p, q);
        answer.addLength(r, s);
        return (int) answer.told(lower);
    }

    public int longer(int p, int q, int r, int s) throws IllegalArgumentException {
        needTangent(p, q);
        needTangent(r, s);
        return Fraction.compareLengths(p, q, r, s);
    }

    // ---- one stub ----------------------------------------------------------------------------

    public int places(int mark, boolean along) throws IndexOutOfBoundsException, IllegalStateException {
        findSpots(mark, along);
        return spots.many;
    }

    public boolean isFraction(int mark, boolean along, int k) throws IndexOutOfBoundsException, IllegalStateException {
        findSpots(mark, along);
        needSpot(k);
        return spots.whole;
    }

    public long place(int mark, boolean along, int k, boolean lower)
            throws IndexOutOfBoundsException, IllegalStateException {
        findSpots(mark, along);
        needSpotFraction(k);
        spots.tell(k, answer);
        return answer.told(lower);
    }

    public long about(int mark, boolean along, int k) throws IndexOutOfBoundsException, IllegalStateException {
        findSpots(mark, along);
        needSpot(k);
        return spots.inThousandths(k);
    }

    public long needs(int mark, boolean along, int k, boolean lower)
            throws IndexOutOfBoundsException, IllegalStateException {
        findSpots(mark, along);
        needSpotFraction(k);
        spots.tellNeeds(k, answer);
        return answer.told(lower);
    }

    public long square(int mark, boolean along, boolean lower) throws IndexOutOfBoundsException, IllegalStateException {
        findSpots(mark, along);
        needSpot(0);
        spots.tellSquare(answer);
        return answer.told(lower);
    }

    public int sign(int mark, boolean along, int k) throws IndexOutOfBoundsException, IllegalStateException {
        findSpots(mark, along);
        needSpot(k);
        return spots.signOfNeeds(k);
    }

    public int build(boolean along, int k, boolean open) throws IllegalStateException {
        findSpots(chain.size, along);
        needSpotFraction(k);
        if (chain.size > MOST_ELEMENTS - 2) {
            throw new IllegalStateException();
        }
        spots.tell(k, answer);
        long lineUpper = answer.upper;
        long lineLower = answer.lower;
        spots.tellNeeds(k, answer);
        if (open == along) {
            answer.put(-answer.lower, answer.upper);
        }
        if (!isTangent(lineUpper, lineLower) || !isTangent(answer.upper, answer.lower)) {
            throw new IllegalStateException();
        }
        chain.append(LINE, (int) lineUpper, (int) lineLower);
        chain.append(sortOfStub(along, open), (int) answer.upper, (int) answer.lower);
        return chain.size;
    }

    // ---- two stubs, and three ----------------------------------------------------------------

    public long real(int mark, boolean along, boolean lower) throws IndexOutOfBoundsException, IllegalStateException {
        needMark(mark);
        needReal(mark, along);
        point.tellReal(along, answer);
        return answer.told(lower);
    }

    public int greatest(int p, int q, boolean lower) throws IllegalArgumentException {
        needDistance(p, q);
        answer.put((long) p * p + (long) q * q, (long) p * p);
        return (int) answer.told(lower);
    }

    public int ways(int mark, boolean along, int p, int q)
            throws IndexOutOfBoundsException, IllegalArgumentException, IllegalStateException {
        needMark(mark);
        needDistance(p, q);
        needReal(mark, along);
        pair.solve(point, along, p, q);
        return pair.many;
    }

    public long stub(int mark, boolean along, int p, int q, int k, boolean second, boolean lower)
            throws IndexOutOfBoundsException, IllegalArgumentException, IllegalStateException {
        needMark(mark);
        needDistance(p, q);
        needReal(mark, along);
        pair.solve(point, along, p, q);
        return toldOfPair(k, second, lower);
    }

    public int escape(int mark, boolean along, int p, int q, boolean lower)
            throws IndexOutOfBoundsException, IllegalArgumentException, IllegalStateException {
        needMark(mark);
        needDistance(p, q);
        needReal(mark, along);
        int line = findEscape(along, p, q);
        if (line < 0) {
            throw new IllegalStateException();
        }
        return lower ? tangents.lowerAt(line) : tangents.upperAt(line);
    }

    public int rescue(int mark, boolean along, int p, int q, int what)
            throws IndexOutOfBoundsException, NoSuchElementException, IllegalArgumentException, IllegalStateException {
        needMark(mark);
        needWhat(what, 2);
        needDistance(p, q);
        needReal(mark, along);
        if (!findRescue(along, p, q)) {
            throw new IllegalStateException();
        }
        return toldStub(what);
    }

    public int corners(int mark, boolean alongFirst) throws IndexOutOfBoundsException, IllegalStateException {
        needMark(mark);
        needReal(mark, alongFirst);
        solveCorner(alongFirst);
        return pair.many;
    }

    public long corner(int mark, boolean alongFirst, int k, boolean second, boolean lower)
            throws IndexOutOfBoundsException, IllegalStateException {
        needMark(mark);
        needReal(mark, alongFirst);
        solveCorner(alongFirst);
        return toldOfPair(k, second, lower);
    }

    public int three(int mark, boolean along, int p, int q, int u, int v)
            throws IndexOutOfBoundsException, IllegalArgumentException, IllegalStateException {
        needThree(mark, p, q, u, v);
        solveThree(mark, along, p, q, u, v);
        return pair.many;
    }

    public long ofThree(int mark, boolean along, int p, int q, int u, int v, int k, boolean third, boolean lower)
            throws IndexOutOfBoundsException, IllegalArgumentException, IllegalStateException {
        needThree(mark, p, q, u, v);
        solveThree(mark, along, p, q, u, v);
        return toldOfPair(k, third, lower);
    }

    // ---- extremes ----------------------------------------------------------------------------

    public long extreme(int mark, boolean second, boolean lower)
            throws IndexOutOfBoundsException, IllegalStateException {
        needMark(mark);
        needPoint(mark);
        if (point.isOne() || !point.tellExtreme(second, answer)) {
            throw new IllegalStateException();
        }
        return answer.told(lower);
    }

    public long swell(int mark, boolean lower) throws IndexOutOfBoundsException, IllegalStateException {
        needMark(mark);
        needPoint(mark);
        if (!point.tellSwell(answer)) {
            throw new IllegalStateException();
        }
        return answer.told(lower);
    }

    public boolean isHigh(int mark) throws IndexOutOfBoundsException, IllegalStateException {
        needMark(mark);
        needPoint(mark);
        if (point.isOne()) {
            throw new IllegalStateException();
        }
        // Behind the LINE an X above 0 first meets the greatest R, one below 0 the least R.
        return point.b > 0 || point.b == 0 && point.a > point.d;
    }

    // ---- searches ----------------------------------------------------------------------------

    public int exact(int m, int k, int what)
            throws NoSuchElementException, IllegalArgumentException, IllegalStateException {
        needWhat(what, 4);
        needReach(m, Tangents.MOST);
        needRoomForTwo();
        int many = findMatches(m, k);
        if (k == NONE) {
            return many;
        }
        return k < 0 || k >= many ? NONE : toldLineAndStub(what);
    }

    public int tuned(int m, int what) throws NoSuchElementException, IllegalArgumentException, IllegalStateException {
        needWhat(what, 3);
        needReach(m, Tangents.MOST);
        if (chain.size == 0) {
            throw new IllegalStateException();
        }
        findTuned(m);
        switch (what) {
            case 0: return found.element;
            case 1: return tangents.upperAt(found.stub);
            case 2: return tangents.lowerAt(found.stub);
            default: return found.inTenThousandths();
        }
    }

    public int best(int m, int what) throws NoSuchElementException, IllegalArgumentException, IllegalStateException {
        needWhat(what, 5);
        needReach(m, 4);
        needRoomForTwo();
        findBest(m);
        return what == 5 ? found.inTenThousandths() : toldLineAndStub(what);
    }

    public int circle(int mark, boolean along, int n, int u, int v)
            throws IndexOutOfBoundsException, IllegalArgumentException, IllegalStateException {
        needMark(mark);
        needReach(n, Tangents.MOST);
        if (u < 0 || u > 99 || v < 1 || v > 20) {
            throw new IllegalArgumentException();
        }
        needReal(mark, along);
        return countCircle(along, n, u, v);
    }

    public long rim(int mark, boolean along, int n, boolean least, int what)
            throws IndexOutOfBoundsException, NoSuchElementException, IllegalArgumentException, IllegalStateException {
        needMark(mark);
        needWhat(what, 3);
        needReach(n, Tangents.MOST);
        needReal(mark, along);
        findRim(along, n, least);
        if (what >= 2) {
            return what == 2 ? tangents.upperAt(found.line) : tangents.lowerAt(found.line);
        }
        answer.put(found.upper, found.lower);
        return answer.told(what == 1);
    }

    public int split(int mark, int p, int q, boolean open, int what)
            throws IndexOutOfBoundsException, NoSuchElementException, IllegalArgumentException, IllegalStateException {
        needMark(mark);
        needWhat(what, 2);
        needTangent(p, q);
        if (mark > 1) {
            throw new IllegalStateException();
        }
        findSplit(mark, p, q, sortOfStub(false, open));
        if (what == 2) {
            return found.inTenThousandths();
        }
        return what == 0 ? tangents.upperAt(found.line) : tangents.lowerAt(found.line);
    }

    public int filter(int n, int what) throws NoSuchElementException, IllegalArgumentException, IllegalStateException {
        needWhat(what, 3);
        if (n < 2 || n > MOST_HARMONIC) {
            throw new IllegalArgumentException();
        }
        if (chain.size >= MOST_ELEMENTS) {
            throw new IllegalStateException();
        }
        findFilter(n);
        if (!found.any || found.upper == found.lower) {
            return NONE;
        }
        return what == 3 ? found.inTenThousandths() : toldStub(what);
    }

    public int placement(int k) {
        if (k < 0 || k >= chain.size || k >= bestOrder.length) {
            return NONE;
        }
        findPlacement();
        return bestOrder[k];
    }

    public int arrange() {
        findPlacement();
        other.take(chain);
        for (int i = 0; i < chain.size && i < bestOrder.length; i++) {
            chain.put(i, other, bestOrder[i]);
        }
        return found.inTenThousandths();
    }

    public int drift(int what) throws NoSuchElementException {
        needWhat(what, 1);
        int now = partsNow();
        int element = NONE;
        int most = 0;
        for (int i = 0; i < chain.size; i++) {
            int more = driftOf(i) - now;
            if (element == NONE || more > most) {
                element = i;
                most = more;
            }
        }
        return what == 0 ? element : most;
    }

    // ---- how wide, how long ------------------------------------------------------------------

    public int wide() {
        return wideOf(chain);
    }

    public long length(int what) throws NoSuchElementException {
        needWhat(what, 2);
        span.measure(chain);
        if (what == 0) {
            return span.halves;
        }
        return span.rest.told(what == 2);
    }

    public int rank(int k) {
        measureShelves();
        for (int i = 0; i < SHELVES; i++) {
            if (shelves[i].full && shelvesAheadOf(i) == k) {
                return i;
            }
        }
        return NONE;
    }

    public int count(int what) {
        switch (what) {
            case 0: return chain.size;
            case 1: return chain.a;
            case 2: return chain.b;
            case 3: return chain.d;
            case 4: return limitUpper;
            case 5: return limitLower;
            case 6: return keptShelves();
            case 7: return isMatchedNow() ? 1 : 0;
            case 8: return greatestQuietHarmonic();
            case 9: return deafHarmonics();
            default: return NONE;
        }
    }

    // ---- what the calls need -----------------------------------------------------------------

    private static boolean isLoad(int a, int b, int d) {
        return a >= 0 && a <= 99 && b >= -99 && b <= 99 && d >= 1 && d <= 20;
    }

    private static boolean isTangent(long p, long q) {
        if (p < -Tangents.MOST || p > Tangents.MOST || q < 0 || q > Tangents.MOST) {
            return false;
        }
        return Fraction.commonOf(p, q) == 1 && (q > 0 || p > 0);
    }

    private static int sortOfStub(boolean along, boolean open) {
        if (along) {
            return open ? OPEN_ALONG : SHUT_ALONG;
        }
        return open ? OPEN_ACROSS : SHUT_ACROSS;
    }

    private void needTangent(int p, int q) {
        if (!isTangent(p, q)) {
            throw new IllegalArgumentException();
        }
    }

    private void needDistance(int p, int q) {
        if (!isTangent(p, q) || p == 0) {
            throw new IllegalArgumentException();
        }
    }

    private void needReach(int m, int most) {
        if (m < 1 || m > most) {
            throw new IllegalArgumentException();
        }
    }

    private void needVariant(int n, boolean beside) {
        int least = beside ? -MOST_BESIDE : 1;
        int most = beside ? MOST_BESIDE : MOST_HARMONIC;
        if (n < least || n > most) {
            throw new IllegalArgumentException();
        }
    }

    private void needWhat(int what, int most) {
        if (what < 0 || what > most) {
            throw new NoSuchElementException();
        }
    }

    private void needElement(int element) {
        if (element < 0 || element >= chain.size) {
            throw new IndexOutOfBoundsException();
        }
    }

    private void needMark(int mark) {
        if (mark < 0 || mark > chain.size) {
            throw new IndexOutOfBoundsException();
        }
    }

    private void needShelf(int shelf) {
        if (shelf < 0 || shelf >= SHELVES) {
            throw new IndexOutOfBoundsException();
        }
    }

    private void needRoomForTwo() {
        if (chain.size > MOST_ELEMENTS - 2) {
            throw new IllegalStateException();
        }
    }

    private void needPoint(int mark) {
        look(chain, mark, wave);
        if (!point.take(wave)) {
            throw new IllegalStateException();
        }
    }

    private void needReal(int mark, boolean along) {
        needPoint(mark);
        needRealOfPoint(along);
    }

    private void needRealOfPoint(boolean along) {
        if (!along && point.isZero()) {
            throw new IllegalStateException();
        }
    }

    private void findSpots(int mark, boolean along) {
        needMark(mark);
        needPoint(mark);
        spots.solve(point, along);
    }

    private void needSpot(int k) {
        if (k < 0 || k >= spots.many) {
            throw new IllegalStateException();
        }
    }

    private void needSpotFraction(int k) {
        if (k < 0 || k >= spots.many || !spots.whole) {
            throw new IllegalStateException();
        }
    }

    private void needThree(int mark, int p, int q, int u, int v) {
        needMark(mark);
        needDistance(p, q);
        if (u < -99 || u > 99 || v < 1 || v > 20) {
            throw new IllegalArgumentException();
        }
    }

    // ---- looking -----------------------------------------------------------------------------

    private static void look(Chain c, int mark, Wave w) {
        w.begin(c.a, c.b, c.d);
        for (int i = 0; i < mark; i++) {
            w.pass(c.sortOf(i), c.upperOf(i), c.lowerOf(i));
        }
    }

    private static void lookOn(Chain c, int from, Wave w) {
        for (int i = from; i < c.size; i++) {
            w.pass(c.sortOf(i), c.upperOf(i), c.lowerOf(i));
        }
    }

    private void lookVariant(Chain c, int n, boolean beside) {
        if (beside) {
            lookBeside(c, n);
        } else {
            lookHarmonic(c, n);
        }
    }

    private void lookHarmonic(Chain c, int n) {
        if (c.b > 0) {
            wave.begin(c.a, (long) n * c.b, c.d);
        } else {
            wave.begin((long) n * c.a, c.b, (long) n * c.d);
        }
        for (int i = 0; i < c.size; i++) {
            answer.putTimes(c.upperOf(i), c.lowerOf(i), n);
            wave.pass(c.sortOf(i), answer.upper, answer.lower);
        }
    }

    private void lookBeside(Chain c, int j) {
        wave.begin(c.a, c.b, c.d);
        for (int i = 0; i < c.size; i++) {
            answer.put((20L + j) * c.upperOf(i), 20L * c.lowerOf(i));
            wave.pass(c.sortOf(i), answer.upper, answer.lower);
        }
    }

    // The squares of HARMONICS are beyond a long, so their ECHO goes through Big.
    private void weighEcho() {
        above.putSquares(wave.upperRe - wave.lowerRe, wave.upperIm - wave.lowerIm);
        below.putSquares(wave.upperRe + wave.lowerRe, wave.upperIm + wave.lowerIm);
    }

    private int partsOfWave() {
        weighEcho();
        int told = 0;
        for (int digit = 0; digit < 5; digit++) {
            told *= 10;
            for (int i = 0; i < 10 && above.compareWith(below) >= 0; i++) {
                above.subtract(below);
                told++;
            }
            above.multiply(10);
        }
        return told;
    }

    private boolean isWaveWithin() {
        weighEcho();
        above.multiply(limitLower);
        below.multiply(limitUpper);
        return above.compareWith(below) <= 0;
    }

    private int partsNow() {
        look(chain, chain.size, wave);
        return partsOfWave();
    }

    private boolean isMatchedNow() {
        look(chain, chain.size, wave);
        return wave.echoUpper() == 0;
    }

    private int greatestQuietHarmonic() {
        for (int n = MOST_HARMONIC; n >= 1; n--) {
            lookHarmonic(chain, n);
            if (isWaveWithin()) {
                return n;
            }
        }
        return 0;
    }

    private int deafHarmonics() {
        int bits = 0;
        for (int n = 1; n <= MOST_HARMONIC; n++) {
            lookHarmonic(chain, n);
            weighEcho();
            if (above.compareWith(below) == 0) {
                bits |= 1 << n;
            }
        }
        return bits;
    }

    private int keptShelves() {
        int bits = 0;
        for (int i = 0; i < SHELVES; i++) {
            if (shelves[i].full) {
                bits |= 1 << i;
            }
        }
        return bits;
    }

    private int wideOf(Chain c) {
        int reached = NONE;
        for (int k = 0; k <= MOST_BESIDE; k++) {
            if (!isWithinBeside(c, k) || !isWithinBeside(c, -k)) {
                return reached;
            }
            reached = k;
        }
        return reached;
    }

    private boolean isWithinBeside(Chain c, int j) {
        lookBeside(c, j);
        return isWaveWithin();
    }

    private void measureShelves() {
        for (int i = 0; i < SHELVES; i++) {
            if (shelves[i].full) {
                shelves[i].wide = wideOf(shelves[i].kept);
                shelves[i].span.measure(shelves[i].kept);
            }
        }
    }

    private int shelvesAheadOf(int shelf) {
        int ahead = 0;
        for (int i = 0; i < SHELVES; i++) {
            if (shelves[i].full && (shelves[i].isAheadOf(shelves[shelf])
                    || i < shelf && !shelves[shelf].isAheadOf(shelves[i]))) {
                ahead++;
            }
        }
        return ahead;
    }

    // ---- two stubs ---------------------------------------------------------------------------

    private long toldOfPair(int k, boolean second, boolean lower) {
        if (k < 0 || k >= pair.many || !pair.whole) {
            throw new IllegalStateException();
        }
        if (second) {
            pair.tellSecond(k, answer);
        } else {
            pair.tellFirst(k, answer);
        }
        return answer.told(lower);
    }

    // A LINE without end in its TANGENT turns z into 1 by z, just as the change from ALONG to ACROSS does.
    private void solveCorner(boolean alongFirst) {
        pair.solve(point, alongFirst, 1, 0);
    }

    private void solveThree(int mark, boolean along, int p, int q, int u, int v) {
        needReal(mark, along);
        beginAtPoint(wave);
        wave.passStub(along, u, v);
        wave.passLine(p, q);
        if (!point.take(wave)) {
            throw new IllegalStateException();
        }
        needRealOfPoint(along);
        pair.solve(point, along, p, q);
    }

    private void beginAtPoint(Wave w) {
        w.begin(point.a, point.b, point.d);
    }

    private boolean isBarren(Wave w, boolean along, int p, int q) {
        long upper = w.realPart();
        long lower = w.underReal(along);
        if (upper <= 0 || lower <= 0) {
            return true;
        }
        return Fraction.compare(upper, lower, (long) p * p + (long) q * q, (long) p * p) > 0;
    }

    private int findEscape(boolean along, int p, int q) {
        beginAtPoint(start);
        for (int i = 0; i < Tangents.COUNT; i++) {
            trial.take(start);
            trial.passLine(tangents.upperAt(i), tangents.lowerAt(i));
            if (!isBarren(trial, along, p, q)) {
                return i;
            }
        }
        return NONE;
    }

    private boolean findRescue(boolean along, int p, int q) {
        beginAtPoint(start);
        for (int i = 0; i < Tangents.COUNT; i++) {
            for (int shut = 0; shut < 2; shut++) {
                trial.take(start);
                trial.pass(sortOfStub(along, shut == 0), tangents.upperAt(i), tangents.lowerAt(i));
                trial.passLine(p, q);
                if (!isBarren(trial, along, p, q)) {
                    found.stub = i;
                    found.open = shut == 0;
                    return true;
                }
            }
        }
        return false;
    }

    // ---- searches ----------------------------------------------------------------------------

    private int toldStub(int what) {
        switch (what) {
            case 0: return tangents.upperAt(found.stub);
            case 1: return tangents.lowerAt(found.stub);
            default: return found.open ? 1 : 0;
        }
    }

    private int toldLineAndStub(int what) {
        switch (what) {
            case 0: return tangents.upperAt(found.line);
            case 1: return tangents.lowerAt(found.line);
            case 2: return found.open ? 1 : 0;
            case 3: return tangents.upperAt(found.stub);
            default: return tangents.lowerAt(found.stub);
        }
    }

    private void findBest(int m) {
        found.clear();
        look(chain, chain.size, start);
        for (int i = 0; i < Tangents.COUNT; i++) {
            if (tangents.isWithinReach(i, m)) {
                wave.take(start);
                wave.passLine(tangents.upperAt(i), tangents.lowerAt(i));
                tryStubs(i, m);
            }
        }
    }

    private void tryStubs(int line, int m) {
        for (int i = 0; i < Tangents.COUNT; i++) {
            for (int shut = 0; shut < 2 && tangents.isWithinReach(i, m); shut++) {
                trial.take(wave);
                trial.pass(sortOfStub(false, shut == 0), tangents.upperAt(i), tangents.lowerAt(i));
                if (found.takeIfLess(trial.echoUpper(), trial.echoLower())) {
                    found.line = line;
                    found.stub = i;
                    found.open = shut == 0;
                }
            }
        }
    }

    // How many there are; the k-th of them is left in found.
    private int findMatches(int m, int k) {
        int many = 0;
        look(chain, chain.size, start);
        for (int i = 0; i < Tangents.COUNT; i++) {
            if (tangents.isWithinReach(i, m)) {
                trial.take(start);
                trial.passLine(tangents.upperAt(i), tangents.lowerAt(i));
                if (isMatchedByStub(trial, m)) {
                    noteMatch(i, k - many);
                    many += 2;
                }
            }
        }
        return many;
    }

    // Leaves in answer the s that a stub ACROSS needs there.
    private boolean isMatchedByStub(Wave w, int m) {
        long square = w.upperSquare();
        if (square <= 0 || w.realPart() != square) {
            return false;
        }
        answer.put(w.imaginary(), square);
        return answer.lower <= m && answer.upper <= m && answer.upper >= -m;
    }

    // An OPEN stub has s as its TANGENT, a SHUT one -1 by s: that one of them which is not below 0 is the shorter.
    private void noteMatch(int line, int which) {
        if (which != 0 && which != 1) {
            return;
        }
        found.line = line;
        found.open = (which == 0) == (answer.upper >= 0);
        if (!found.open) {
            answer.put(-answer.lower, answer.upper);
        }
        found.stub = tangents.find(answer.upper, answer.lower);
    }

    private void findTuned(int m) {
        found.clear();
        for (int i = 0; i < chain.size; i++) {
            look(chain, i, start);
            tryTangents(i, m);
        }
    }

    private void tryTangents(int element, int m) {
        for (int i = 0; i < Tangents.COUNT; i++) {
            if (tangents.isWithinReach(i, m)) {
                passInstead(element, i);
                if (found.takeIfLess(trial.echoUpper(), trial.echoLower())) {
                    found.element = element;
                    found.stub = i;
                }
            }
        }
    }

    // From start, what is SEEN ahead of the ELEMENT, to the end, with another TANGENT in place of its own.
    private void passInstead(int element, int tangent) {
        trial.take(start);
        trial.pass(chain.sortOf(element), tangents.upperAt(tangent), tangents.lowerAt(tangent));
        lookOn(chain, element + 1, trial);
    }

    private int driftOf(int element) {
        int at = tangents.find(chain.upperOf(element), chain.lowerOf(element));
        look(chain, element, start);
        int next = partsInstead(element, at + 1 < Tangents.COUNT ? at + 1 : 0);
        int last = partsInstead(element, at > 0 ? at - 1 : Tangents.COUNT - 1);
        return next > last ? next : last;
    }

    private int partsInstead(int element, int tangent) {
        passInstead(element, tangent);
        return Fraction.inTenThousandths(trial.echoUpper(), trial.echoLower());
    }

    private void findSplit(int mark, int p, int q, int sort) {
        found.clear();
        look(chain, mark, start);
        start.pass(sort, p, q);
        for (int i = 0; i < Tangents.COUNT; i++) {
            trial.take(start);
            trial.passLine(tangents.upperAt(i), tangents.lowerAt(i));
            trial.pass(sort, p, q);
            if (found.takeIfLess(trial.echoUpper(), trial.echoLower())) {
                found.line = i;
            }
        }
    }

    private void findFilter(int n) {
        found.clear();
        look(chain, chain.size, start);
        for (int i = 0; i < Tangents.COUNT; i++) {
            answer.putTimes(tangents.upperAt(i), tangents.lowerAt(i), n);
            if (answer.lower == 0) {
                tryFilter(i, true);
            }
            if (answer.upper == 0) {
                tryFilter(i, false);
            }
        }
    }

    private void tryFilter(int tangent, boolean open) {
        trial.take(start);
        trial.pass(sortOfStub(false, open), tangents.upperAt(tangent), tangents.lowerAt(tangent));
        if (found.takeIfLess(trial.echoUpper(), trial.echoLower())) {
            found.stub = tangent;
            found.open = open;
        }
    }

    private int countCircle(boolean along, int n, int u, int v) {
        int many = 0;
        beginAtPoint(start);
        for (int i = 0; i < Tangents.COUNT; i++) {
            trial.take(start);
            trial.passLine(tangents.upperAt(i), tangents.lowerAt(i));
            long lower = trial.underReal(along);
            if (tangents.isWithinReach(i, n) && lower > 0
                    && Fraction.compare(trial.realPart(), lower, u, v) >= 0) {
                many++;
            }
        }
        return many;
    }

    private void findRim(boolean along, int n, boolean least) {
        found.clear();
        beginAtPoint(start);
        for (int i = 0; i < Tangents.COUNT; i++) {
            trial.take(start);
            trial.passLine(tangents.upperAt(i), tangents.lowerAt(i));
            long lower = trial.underReal(along);
            if (tangents.isWithinReach(i, n) && lower > 0
                    && found.takeIf(trial.realPart(), lower, least ? -1 : 1)) {
                found.line = i;
            }
        }
    }

    private void findPlacement() {
        found.clear();
        for (int i = 0; i < order.length; i++) {
            order[i] = i;
        }
        // 24 rows are all there are of 4 ELEMENTS.
        int size = Math.min(chain.size, order.length);
        boolean more = true;
        for (int row = 0; row < 24 && more; row++) {
            tryOrder();
            more = stepOrder(size);
        }
    }

    private void tryOrder() {
        trial.begin(chain.a, chain.b, chain.d);
        for (int i = 0; i < chain.size && i < order.length; i++) {
            int element = order[i];
            trial.pass(chain.sortOf(element), chain.upperOf(element), chain.lowerOf(element));
        }
        if (found.takeIfLess(trial.echoUpper(), trial.echoLower())) {
            System.arraycopy(order, 0, bestOrder, 0, MOST_ELEMENTS);
        }
    }

    // To the next row of the first numbers, no more than there are in order; false behind the last one.
    private boolean stepOrder(int size) {
        int at = size - 2;
        while (at >= 0 && order[at] > order[at + 1]) {
            at--;
        }
        if (at < 0) {
            return false;
        }
        int with = size - 1;
        while (with > at && order[with] < order[at]) {
            with--;
        }
        swapOrder(at, with);
        for (int left = at + 1, right = size - 1; left < right; left++, right--) {
            swapOrder(left, right);
        }
        return true;
    }

    private void swapOrder(int one, int another) {
        if (one < 0 || another < 0 || one >= order.length || another >= order.length) {
            return;
        }
        int kept = order[one];
        order[one] = order[another];
        order[another] = kept;
    }

    // ---- the classes inside ------------------------------------------------------------------

    /** All TANGENTS in the order of their LENGTHS. */
    private static final class Tangents {
        static final int MOST = 12;
        static final int COUNT = 184;
        // 0 is at 0, 1 at 46, the one without end at 92, -1 at 138.
        private static final int ONE = 46;
        private static final int ENDLESS = 92;

        private final int[] uppers = new int[COUNT];
        private final int[] lowers = new int[COUNT];

        Tangents() {
            fillToEndless();
            for (int i = ENDLESS + 1; i < COUNT; i++) {
                uppers[i] = -uppers[COUNT - i];
                lowers[i] = lowers[COUNT - i];
            }
        }

        // From 0 to 1 each fraction follows from the two ahead of it (the row of Farey); above 1 are their reverses.
        private void fillToEndless() {
            int upper = 0;
            int lower = 1;
            int nextUpper = 1;
            int nextLower = MOST;
            for (int i = 0; i <= ONE; i++) {
                uppers[i] = upper;
                lowers[i] = lower;
                uppers[ENDLESS - i] = lower;
                lowers[ENDLESS - i] = upper;
                int times = nextLower == 0 ? 0 : (MOST + lower) / nextLower;
                int afterUpper = times * nextUpper - upper;
                int afterLower = times * nextLower - lower;
                upper = nextUpper;
                lower = nextLower;
                nextUpper = afterUpper;
                nextLower = afterLower;
            }
        }

        int upperAt(int i) {
            return i < 0 || i >= COUNT ? 0 : uppers[i];
        }

        int lowerAt(int i) {
            return i < 0 || i >= COUNT ? 1 : lowers[i];
        }

        boolean isWithinReach(int i, int m) {
            return Math.abs(upperAt(i)) <= m && lowerAt(i) <= m;
        }

        int find(long p, long q) {
            for (int i = 0; i < COUNT; i++) {
                if (uppers[i] == p && lowers[i] == q) {
                    return i;
                }
            }
            return 0;
        }
    }

    /** A LOAD and the ELEMENTS behind it. */
    private static final class Chain {
        private int a = 1;
        private int b = 0;
        private int d = 1;
        private int size = 0;
        private final int[] sorts = new int[MOST_ELEMENTS];
        private final int[] uppers = new int[MOST_ELEMENTS];
        private final int[] lowers = new int[MOST_ELEMENTS];

        void putLoad(int newA, int newB, int newD) {
            a = newA;
            b = newB;
            d = newD;
        }

        void append(int sort, int p, int q) {
            if (size < 0 || size >= MOST_ELEMENTS) {
                return;
            }
            sorts[size] = sort;
            uppers[size] = p;
            lowers[size] = q;
            size++;
        }

        void turn(int i, int p, int q) {
            if (has(i)) {
                uppers[i] = p;
                lowers[i] = q;
            }
        }

        void turnSort(int i) {
            if (has(i) && sorts[i] != LINE) {
                sorts[i] = OPEN_ACROSS + SHUT_ALONG - sorts[i];
            }
        }

        void put(int i, Chain from, int at) {
            if (has(i)) {
                sorts[i] = from.sortOf(at);
                uppers[i] = from.upperOf(at);
                lowers[i] = from.lowerOf(at);
            }
        }

        void take(Chain from) {
            putLoad(from.a, from.b, from.d);
            size = from.size;
            System.arraycopy(from.sorts, 0, sorts, 0, MOST_ELEMENTS);
            System.arraycopy(from.uppers, 0, uppers, 0, MOST_ELEMENTS);
            System.arraycopy(from.lowers, 0, lowers, 0, MOST_ELEMENTS);
        }

        boolean has(int i) {
            return i >= 0 && i < MOST_ELEMENTS;
        }

        int sortOf(int i) {
            return has(i) ? sorts[i] : LINE;
        }

        int upperOf(int i) {
            return has(i) ? uppers[i] : 0;
        }

        int lowerOf(int i) {
            return has(i) ? lowers[i] : 1;
        }
    }

    /**
     * What is SEEN, as a quotient of two numbers with real and imaginary whole parts: so nothing divides, and what is
     * without end has a lower number of 0. Never are both 0.
     */
    private static final class Wave {
        private long upperRe = 1;
        private long upperIm = 0;
        private long lowerRe = 1;
        private long lowerIm = 0;

        void begin(long a, long b, long d) {
            upperRe = a;
            upperIm = b;
            lowerRe = d;
            lowerIm = 0;
        }

        void take(Wave from) {
            upperRe = from.upperRe;
            upperIm = from.upperIm;
            lowerRe = from.lowerRe;
            lowerIm = from.lowerIm;
        }

        void pass(int sort, long p, long q) {
            switch (sort) {
                case LINE: passLine(p, q); break;
                case OPEN_ACROSS: passStub(false, p, q); break;
                case SHUT_ACROSS: passStub(false, -q, p); break;
                case OPEN_ALONG: passStub(true, -q, p); break;
                default: passStub(true, p, q); break;
            }
        }

        void passLine(long p, long q) {
            long newUpperRe = q * upperRe - p * lowerIm;
            long newUpperIm = q * upperIm + p * lowerRe;
            long newLowerRe = q * lowerRe - p * upperIm;
            lowerIm = q * lowerIm + p * upperRe;
            lowerRe = newLowerRe;
            upperRe = newUpperRe;
            upperIm = newUpperIm;
        }

        // s is u by v.
        void passStub(boolean along, long u, long v) {
            if (along) {
                if (lowerRe == 0 && lowerIm == 0) {
                    return;
                }
                long newUpperRe = v * upperRe - u * lowerIm;
                upperIm = v * upperIm + u * lowerRe;
                upperRe = newUpperRe;
                lowerRe = v * lowerRe;
                lowerIm = v * lowerIm;
            } else {
                if (upperRe == 0 && upperIm == 0) {
                    return;
                }
                long newLowerRe = v * lowerRe - u * upperIm;
                lowerIm = v * lowerIm + u * upperRe;
                lowerRe = newLowerRe;
                upperRe = v * upperRe;
                upperIm = v * upperIm;
            }
        }

        boolean hasNoEnd() {
            return lowerRe == 0 && lowerIm == 0;
        }

        // R is this by lowerSquare(), the real part of 1 by z this by upperSquare().
        long realPart() {
            return upperRe * lowerRe + upperIm * lowerIm;
        }

        // X is this by lowerSquare().
        long imaginary() {
            return upperIm * lowerRe - upperRe * lowerIm;
        }

        long upperSquare() {
            return upperRe * upperRe + upperIm * upperIm;
        }

        long lowerSquare() {
            return lowerRe * lowerRe + lowerIm * lowerIm;
        }

        // REAL is realPart() by this; 0 where REAL is not told.
        long underReal(boolean along) {
            return along ? lowerSquare() : upperSquare();
        }

        long echoUpper() {
            long re = upperRe - lowerRe;
            long im = upperIm - lowerIm;
            return re * re + im * im;
        }

        long echoLower() {
            long re = upperRe + lowerRe;
            long im = upperIm + lowerIm;
            return re * re + im * im;
        }
    }

    /** A fraction in lowest terms, the sign above; 1 by 0 without end. Also what fractions need that are none yet. */
    private static final class Fraction {
        private long upper = 0;
        private long lower = 1;

        void put(long newUpper, long newLower) {
            long common = commonOf(newUpper, newLower);
            if (common == 0) {
                upper = 0;
                lower = 1;
                return;
            }
            long turned = newLower < 0 || newLower == 0 && newUpper < 0 ? -common : common;
            upper = newUpper / turned;
            lower = newLower / turned;
        }

        long told(boolean tellLower) {
            return tellLower ? lower : upper;
        }

        // As TANGENTS: this one TOGETHER with p by q.
        void addLength(long p, long q) {
            put(upper * q + lower * p, lower * q - upper * p);
        }

        void putTimes(long p, long q, int n) {
            put(p, q);
            for (int i = 1; i < n; i++) {
                addLength(p, q);
            }
        }

        // Not below 0; 0 of 0 and 0 alone.
        static long commonOf(long one, long another) {
            long a = Math.abs(one);
            long b = Math.abs(another);
            // Euclid's steps on two longs are fewer than 100.
            for (int i = 0; i < 100 && b != 0; i++) {
                long rest = a % b;
                a = b;
                b = rest;
            }
            return a;
        }

        // The whole root, rounded down, of a number below 2 to the 62.
        static long rootOf(long square) {
            long root = 0;
            for (int bit = 30; bit >= 0; bit--) {
                long more = root + (1L << bit);
                if (more * more <= square) {
                    root = more;
                }
            }
            return root;
        }

        // Of fractions 0 or above, by whole parts and then the reverses of what is left: products could be too big.
        static int compare(long a, long b, long c, long d) {
            int turn = 1;
            for (int i = 0; i < 100; i++) {
                if (b == 0 || d == 0) {
                    return turn * ((b == 0 ? 1 : 0) - (d == 0 ? 1 : 0));
                }
                long one = a / b;
                long another = c / d;
                if (one != another) {
                    return one < another ? -turn : turn;
                }
                long oneRest = a - one * b;
                long anotherRest = c - another * d;
                a = b;
                b = oneRest;
                c = d;
                d = anotherRest;
                turn = -turn;
            }
            return 0;
        }

        static int compareLengths(long p, long q, long r, long s) {
            int one = groupOf(p, q);
            int another = groupOf(r, s);
            if (one != another) {
                return one < another ? -1 : 1;
            }
            return one == 1 ? 0 : Long.compare(p * s, r * q);
        }

        // From 0 up, without end, below 0.
        static int groupOf(long p, long q) {
            if (q == 0) {
                return 1;
            }
            return p >= 0 ? 0 : 2;
        }

        // ECHO's numbers at MARKS stay below 6 times 10 to the 14, so 10,000 times them is no more than a long.
        static int inTenThousandths(long upper, long lower) {
            return lower == 0 ? 0 : (int) (10000 * upper / lower);
        }
    }

    /** z as a and j b by d in lowest terms of all three, each 1,000 at most. */
    private static final class Point {
        private static final long MOST = 1000;

        private long a = 1;
        private long b = 0;
        private long d = 1;

        // False, if it is TOO FINE.
        boolean take(Wave w) {
            return put(w.realPart(), w.imaginary(), w.lowerSquare());
        }

        // 1 by that z.
        boolean takeTurned(long oldA, long oldB, long oldD) {
            return put(oldA * oldD, -oldB * oldD, oldA * oldA + oldB * oldB);
        }

        private boolean put(long newA, long newB, long newD) {
            long common = Fraction.commonOf(Fraction.commonOf(newA, newB), newD);
            if (newD == 0 || common == 0) {
                return false;
            }
            a = newA / common;
            b = newB / common;
            d = newD / common;
            return a <= MOST && b <= MOST && b >= -MOST && d <= MOST;
        }

        boolean isOne() {
            return a == d && b == 0;
        }

        boolean isZero() {
            return a == 0 && b == 0;
        }

        long squareSum() {
            return a * a + b * b;
        }

        void tellReal(boolean along, Fraction told) {
            if (along) {
                told.put(a, d);
            } else {
                told.put(a * d, squareSum());
            }
        }

        // X is 0 where b d t t + (a a + b b - d d) t - b d is; what stands under that root is SWELL's, too.
        private long underRoot() {
            long middle = squareSum() - d * d;
            return middle * middle + 4 * b * d * b * d;
        }

        // False, if it is no fraction.
        boolean tellExtreme(boolean second, Fraction told) {
            if (b == 0) {
                told.put(second ? 1 : 0, second ? 0 : 1);
                return true;
            }
            long under = underRoot();
            long root = Fraction.rootOf(under);
            long middle = b > 0 ? squareSum() - d * d : d * d - squareSum();
            told.put((second ? -root : root) - middle, 2 * Math.abs(b) * d);
            return root * root == under;
        }

        // False, if it is no fraction.
        boolean tellSwell(Fraction told) {
            long under = underRoot();
            long root = Fraction.rootOf(under);
            told.put(squareSum() + d * d + root, 2 * a * d);
            if (a == 0) {
                told.put(1, 0);
            }
            return a == 0 || root * root == under;
        }
    }

    /**
     * PLACES for one stub: the two t with lead t t - 2 half t + rest of 0, (half + root) by lead and (half - root) by
     * lead, root the root of under; s of the stub is root by (a d), once with this sign, once with the other.
     */
    private static final class Places {
        private int many = 0;
        private boolean whole = false;
        private boolean along = false;
        private boolean plusFirst = false;
        private long lead = 0;
        private long half = 0;
        private long rest = 0;
        private long under = 0;
        private long root = 0;
        private long product = 0;

        void solve(Point z, boolean isAlong) {
            along = isAlong;
            many = z.a == 0 || z.isOne() ? 0 : 2;
            product = z.a * z.d;
            half = z.b * z.d;
            lead = along ? z.squareSum() - product : product - z.d * z.d;
            rest = along ? z.d * z.d - product : product - z.squareSum();
            under = half * half - lead * rest;
            root = Fraction.rootOf(under);
            whole = root * root == under;
            plusFirst = isPlusFirst();
        }

        private boolean isPlusFirst() {
            int plus = groupOf(1);
            int minus = groupOf(-1);
            return plus != minus ? plus < minus : lead < 0;
        }

        // As of Fraction: from 0 up, without end, below 0.
        private int groupOf(int side) {
            if (isEndlessSide(side)) {
                return 1;
            }
            if (lead == 0) {
                return Long.compare(rest, 0) * Long.compare(half, 0) >= 0 ? 0 : 2;
            }
            return signOfSum(side) * Long.compare(lead, 0) >= 0 ? 0 : 2;
        }

        // With a lead of 0 the root is half, without its sign.
        private boolean isEndlessSide(int side) {
            return lead == 0 && half * side > 0;
        }

        // The sign of half + side root.
        private int signOfSum(int side) {
            long towards = half * side;
            if (towards >= 0) {
                return side;
            }
            return side * Long.compare(under, half * half);
        }

        private int sideOf(int k) {
            return (k == 0) == plusFirst ? 1 : -1;
        }

        void tell(int k, Fraction told) {
            int side = sideOf(k);
            if (isEndlessSide(side)) {
                told.put(1, 0);
            } else if (lead == 0) {
                told.put(rest, 2 * half);
            } else {
                told.put(half + side * root, lead);
            }
        }

        long inThousandths(int k) {
            int side = sideOf(k);
            if (isEndlessSide(side)) {
                return ENDLESS_IN_THOUSANDTHS;
            }
            if (lead == 0) {
                return half == 0 ? 0 : Math.floorDiv(1000 * rest, 2 * half);
            }
            int turn = lead > 0 ? 1 : -1;
            return Math.floorDiv(turn * 1000 * half + floorOfRoot(side * turn), turn * lead);
        }

        // 1,000 times the root, or that below 0, rounded down.
        private long floorOfRoot(int side) {
            long square = 1_000_000 * under;
            long big = Fraction.rootOf(square);
            if (side > 0) {
                return big;
            }
            return big * big == square ? -big : -big - 1;
        }

        int signOfNeeds(int k) {
            return along ? sideOf(k) : -sideOf(k);
        }

        void tellNeeds(int k, Fraction told) {
            told.put(signOfNeeds(k) * root, product);
        }

        void tellSquare(Fraction told) {
            told.put(under, product * product);
        }
    }

    /**
     * TWO STUBS: with REAL g, upper by lower, and the other part of it, side by lower, FIRST brings that part to
     * (lower q + root) by (lower p) or (lower q - root) by (lower p), SECOND is (upper q + root) by (upper p) then, or
     * (upper q - root) by (upper p).
     */
    private static final class Pair {
        private int many = 0;
        private boolean whole = false;
        private long upper = 0;
        private long lower = 1;
        private long side = 0;
        private long root = 0;
        private long p = 1;
        private long q = 0;

        void solve(Point z, boolean along, int newP, int newQ) {
            p = newP;
            q = newQ;
            upper = along ? z.a : z.a * z.d;
            lower = along ? z.d : z.squareSum();
            side = along ? z.b : -z.b * z.d;
            long under = upper * (lower * (p * p + q * q) - upper * p * p);
            root = under < 0 ? 0 : Fraction.rootOf(under);
            whole = root * root == under;
            if (upper == 0 || under < 0) {
                many = 0;
            } else {
                many = under == 0 ? 1 : 2;
            }
        }

        // FIRST is the less with the root taken away, if p is above 0.
        private long rootOf(int k) {
            return (k == 0) == (p > 0) ? -root : root;
        }

        void tellFirst(int k, Fraction told) {
            told.put(lower * q + rootOf(k) - side * p, lower * p);
        }

        void tellSecond(int k, Fraction told) {
            told.put(upper * q + rootOf(k), upper * p);
        }
    }

    /** The best that a search has met, and by what. */
    private static final class Best {
        private boolean any = false;
        private long upper = 0;
        private long lower = 1;
        private int element = 0;
        private int line = 0;
        private int stub = 0;
        private boolean open = false;

        void clear() {
            any = false;
            upper = 0;
            lower = 1;
        }

        boolean takeIfLess(long newUpper, long newLower) {
            return takeIf(newUpper, newLower, -1);
        }

        // Of several alike the first one stays.
        boolean takeIf(long newUpper, long newLower, int wanted) {
            if (any && Fraction.compare(newUpper, newLower, upper, lower) != wanted) {
                return false;
            }
            any = true;
            upper = newUpper;
            lower = newLower;
            return true;
        }

        int inTenThousandths() {
            return Fraction.inTenThousandths(upper, lower);
        }
    }

    /** LONG: full half waves, and the TANGENT of what is left. */
    private static final class Span {
        private int halves = 0;
        private final Fraction rest = new Fraction();

        void measure(Chain c) {
            halves = 0;
            rest.put(0, 1);
            for (int i = 0; i < c.size; i++) {
                long upper = rest.upper;
                long lower = rest.lower;
                rest.addLength(c.upperOf(i), c.lowerOf(i));
                // A LENGTH more leaves less than there was only where half a wave is full.
                if (Fraction.compareLengths(rest.upper, rest.lower, upper, lower) < 0) {
                    halves++;
                }
            }
        }

        int compareWith(Span another) {
            if (halves != another.halves) {
                return halves < another.halves ? -1 : 1;
            }
            return Fraction.compareLengths(rest.upper, rest.lower, another.rest.upper, another.rest.lower);
        }
    }

    /** What is kept, and what RANK asks of it. */
    private static final class Shelf {
        private boolean full = false;
        private final Chain kept = new Chain();
        private int wide = NONE;
        private final Span span = new Span();

        boolean isAheadOf(Shelf another) {
            if (wide != another.wide) {
                return wide > another.wide;
            }
            return span.compareWith(another.span) < 0;
        }
    }

    /** A whole number, 0 or above, below 2 to the 150. */
    private static final class Big {
        private static final int LIMBS = 5;
        private static final int BITS = 30;
        private static final long MASK = (1L << BITS) - 1;

        private final long[] limbs = new long[LIMBS];

        // Of numbers below 2 to the 59.
        void putSquares(long one, long another) {
            long a = Math.abs(one);
            long b = Math.abs(another);
            long a0 = a & MASK;
            long a1 = a >> BITS;
            long b0 = b & MASK;
            long b1 = b >> BITS;
            limbs[0] = a0 * a0 + b0 * b0;
            limbs[1] = 2 * (a0 * a1 + b0 * b1);
            limbs[2] = a1 * a1 + b1 * b1;
            limbs[3] = 0;
            limbs[4] = 0;
            carry();
        }

        void multiply(int by) {
            for (int i = 0; i < LIMBS; i++) {
                limbs[i] *= by;
            }
            carry();
        }

        // No more than this is.
        void subtract(Big less) {
            for (int i = 0; i < LIMBS; i++) {
                limbs[i] -= less.limbs[i];
            }
            carry();
        }

        int compareWith(Big another) {
            for (int i = LIMBS - 1; i >= 0; i--) {
                if (limbs[i] != another.limbs[i]) {
                    return limbs[i] < another.limbs[i] ? -1 : 1;
                }
            }
            return 0;
        }

        // Shifts round down, so that what is below 0 borrows from the next one.
        private void carry() {
            for (int i = 0; i + 1 < LIMBS; i++) {
                limbs[i + 1] += limbs[i] >> BITS;
                limbs[i] &= MASK;
            }
        }
    }
}
