import java.math.BigDecimal;
import java.math.BigInteger;
import java.math.MathContext;
import java.math.RoundingMode;
import java.util.ArrayList;
import java.util.List;
import java.util.NoSuchElementException;

/**
 * The document once more, in its plainest form: fractions of any size, every search by trying all there is. It shares
 * no line with StubBench; FuzzTest holds the two against each other.
 */
final class Oracle {
    static final MathContext FINE = new MathContext(120);
    static final List<Frac> TANGENTS = allTangents();

    int[] load = {1, 0, 1};
    List<int[]> elements = new ArrayList<>();
    int[] limit = {1, 10};
    final int[][] shelfLoad = new int[4][];
    final List<List<int[]>> shelfElements = new ArrayList<>(java.util.Arrays.asList(null, null, null, null));

    static List<Frac> allTangents() {
        List<Frac> all = new ArrayList<>();
        for (int p = -12; p <= 12; p++) {
            for (int q = 0; q <= 12; q++) {
                if (isTangent(p, q)) {
                    all.add(Frac.of(p, q));
                }
            }
        }
        all.sort(Frac::compareLengths);
        return all;
    }

    static boolean isTangent(int p, int q) {
        return p >= -12 && p <= 12 && q >= 0 && q <= 12
                && BigInteger.valueOf(p).gcd(BigInteger.valueOf(q)).intValue() == 1 && !(p == -1 && q == 0);
    }

    static List<Frac> within(int m) {
        List<Frac> some = new ArrayList<>();
        for (Frac t : TANGENTS) {
            if (t.upper.abs().intValue() <= m && t.lower.intValue() <= m) {
                some.add(t);
            }
        }
        return some;
    }

    static void need(boolean holds, RuntimeException otherwise) {
        if (!holds) {
            throw otherwise;
        }
    }

    static void index(boolean holds) {
        need(holds, new IndexOutOfBoundsException());
    }

    static void argument(boolean holds) {
        need(holds, new IllegalArgumentException());
    }

    static void what(boolean holds) {
        need(holds, new NoSuchElementException());
    }

    static void state(boolean holds) {
        need(holds, new IllegalStateException());
    }

    void mark(int mark) {
        index(mark >= 0 && mark <= elements.size());
    }

    static Frac tangentOf(int[] e) {
        return Frac.of(e[1], e[2]);
    }

    Seen loadSeen() {
        return new Seen(Frac.of(load[0], load[2]), Frac.of(load[1], load[2]));
    }

    Seen at(int mark) {
        return through(loadSeen(), elements.subList(0, mark));
    }

    static Seen through(Seen z, List<int[]> row) {
        for (int[] e : row) {
            z = z.behind(e[0], tangentOf(e));
        }
        return z;
    }

    // ---- the chain

    void load(int a, int b, int d) {
        argument(isLoad(a, b, d));
        load = new int[] {a, b, d};
    }

    static boolean isLoad(int a, int b, int d) {
        return a >= 0 && a <= 99 && b >= -99 && b <= 99 && d >= 1 && d <= 20;
    }

    int add(int sort, int p, int q) {
        argument(sort >= 0 && sort <= 4 && isTangent(p, q));
        state(elements.size() < 4);
        elements.add(new int[] {sort, p, q});
        return elements.size() - 1;
    }

    int drop() {
        state(!elements.isEmpty());
        elements.remove(elements.size() - 1);
        return elements.size();
    }

    void trim(int element, int p, int q) {
        index(element >= 0 && element < elements.size());
        argument(isTangent(p, q));
        elements.set(element, new int[] {elements.get(element)[0], p, q});
    }

    void limit(int u, int v) {
        argument(u >= 0 && u <= 19 && v >= 1 && v <= 20 && u < v);
        limit = new int[] {u, v};
    }

    int element(int element, int what) {
        index(element >= 0 && element < elements.size());
        what(what >= 0 && what <= 2);
        return elements.get(element)[what];
    }

    void dual() {
        Seen z = loadSeen().oneBy();
        state(!z.isEndless());
        BigInteger d = lcm(z.r.lower, z.x.lower);
        BigInteger a = z.r.times(whole(d)).upper;
        BigInteger b = z.x.times(whole(d)).upper;
        state(a.bitLength() < 20 && b.bitLength() < 20 && d.bitLength() < 20);
        state(isLoad(a.intValue(), b.intValue(), d.intValue()));
        load = new int[] {a.intValue(), b.intValue(), d.intValue()};
        int[] turned = {0, 4, 3, 2, 1};
        for (int i = 0; i < elements.size(); i++) {
            int[] e = elements.get(i);
            elements.set(i, new int[] {turned[e[0]], e[1], e[2]});
        }
    }

    static BigInteger lcm(BigInteger a, BigInteger b) {
        return a.multiply(b).divide(a.gcd(b));
    }

    static Frac whole(BigInteger n) {
        return Frac.of(n.longValueExact(), 1);
    }

    int keep(int shelf) {
        index(shelf >= 0 && shelf < 4);
        shelfLoad[shelf] = load.clone();
        shelfElements.set(shelf, new ArrayList<>(elements));
        return elements.size();
    }

    int bring(int shelf) {
        index(shelf >= 0 && shelf < 4);
        state(shelfLoad[shelf] != null);
        load = shelfLoad[shelf].clone();
        elements = new ArrayList<>(shelfElements.get(shelf));
        return elements.size();
    }

    // ---- seen

    long seen(int mark, boolean x, boolean lower) {
        mark(mark);
        Seen z = at(mark);
        state(!z.isEndless());
        return (x ? z.x : z.r).told(lower);
    }

    boolean isEndless(int mark) {
        mark(mark);
        return at(mark).isEndless();
    }

    long echo(int mark, boolean lower) {
        mark(mark);
        return at(mark).echo().told(lower);
    }

    static Frac timesOf(Frac t, int n) {
        Frac all = t;
        for (int i = 1; i < n; i++) {
            all = together(all, t);
        }
        return all;
    }

    static Frac together(Frac t, Frac u) {
        if (t.isEndless() && u.isEndless()) {
            return Frac.ZERO;
        }
        if (t.isEndless() || u.isEndless()) {
            Frac finite = t.isEndless() ? u : t;
            return finite.isZero() ? Frac.ENDLESS : Frac.ONE.negate().by(finite);
        }
        Frac below = Frac.ONE.minus(t.times(u));
        return below.isZero() ? Frac.ENDLESS : t.plus(u).by(below);
    }

    static Seen variant(int[] load, List<int[]> elements, int n, boolean beside) {
        Frac r = Frac.of(load[0], load[2]);
        Frac x = Frac.of(load[1], load[2]);
        if (!beside) {
            x = x.sign() > 0 ? x.times(Frac.of(n, 1)) : x.by(Frac.of(n, 1));
        }
        Seen z = new Seen(r, x);
        for (int[] e : elements) {
            Frac t = tangentOf(e);
            t = beside ? t.isEndless() ? t : t.times(Frac.of(20 + n, 20)) : timesOf(t, n);
            z = z.behind(e[0], t);
        }
        return z;
    }

    Frac variantEcho(int n, boolean beside) {
        argument(beside ? n >= -10 && n <= 10 : n >= 1 && n <= 3);
        return variant(load, elements, n, beside).echo();
    }

    int parts(int n, boolean beside) {
        return variantEcho(n, beside).partsDown();
    }

    boolean isWithin(int n, boolean beside) {
        return variantEcho(n, beside).compareTo(Frac.of(limit[0], limit[1])) <= 0;
    }

    // ---- tangents

    int half(int p, int q, boolean lower) {
        argument(isTangent(p, q));
        Frac t = Frac.of(p, q);
        // Of both solutions of 2 h by (1 - h h) = t the one that is 0 or above.
        if (t.isZero()) {
            return (int) t.told(lower);
        }
        if (t.isEndless()) {
            return 1;
        }
        Frac root = Frac.ONE.plus(t.times(t)).root();
        state(root != null);
        Frac one = root.minus(Frac.ONE).by(t);
        Frac another = root.negate().minus(Frac.ONE).by(t);
        return (int) (one.sign() > 0 ? one : another).told(lower);
    }

    int times(int p, int q, int n, boolean lower) {
        argument(n >= 1 && n <= 4 && isTangent(p, q));
        return (int) timesOf(Frac.of(p, q), n).told(lower);
    }

    int together(int p, int q, int r, int s, boolean lower) {
        argument(isTangent(p, q) && isTangent(r, s));
        return (int) together(Frac.of(p, q), Frac.of(r, s)).told(lower);
    }

    int longer(int p, int q, int r, int s) {
        argument(isTangent(p, q) && isTangent(r, s));
        return Frac.compareLengths(Frac.of(p, q), Frac.of(r, s));
    }

    // ---- one stub

    Seen fine(int mark) {
        mark(mark);
        return fine(at(mark));
    }

    static Seen fine(Seen z) {
        state(!z.isEndless());
        BigInteger most = BigInteger.valueOf(1000);
        BigInteger d = lcm(z.r.lower, z.x.lower);
        state(d.compareTo(most) <= 0);
        Frac whole = whole(d);
        state(z.r.times(whole).upper.compareTo(most) <= 0 && z.x.times(whole).upper.abs().compareTo(most) <= 0);
        return z;
    }

    interface Condition {
        Frac of(Seen upper, Seen lower);
    }

    /** A root of what holds behind a LINE: a fraction, or none and then told to 100 digits. */
    static final class Root {
        final Frac exact;
        final BigDecimal fine;

        Root(Frac exact, BigDecimal fine) {
            this.exact = exact;
            this.fine = fine;
        }

        boolean ahead(Root o) {
            if (exact != null) {
                return Frac.compareLengths(exact, o.exact) < 0;
            }
            boolean below = fine.signum() < 0;
            return below != (o.fine.signum() < 0) ? !below : fine.compareTo(o.fine) < 0;
        }
    }

    /** Both t where the condition on (z + j t) and (1 + j z t) is 0: a square in t, found from three of its values. */
    static Root[] roots(Seen z, Condition condition) {
        Frac[] at = new Frac[3];
        for (int i = 0; i < 3; i++) {
            Seen t = Seen.j(Frac.of(i, 1));
            at[i] = condition.of(z.plus(t), Seen.ONE.plus(z.times(t)));
        }
        Frac two = Frac.of(2, 1);
        Frac c = at[0];
        Frac a = at[2].minus(at[1].times(two)).plus(at[0]).by(two);
        Frac b = at[1].minus(a).minus(c);
        Root one;
        Root another;
        if (a.isZero()) {
            one = new Root(Frac.ENDLESS, null);
            another = new Root(c.negate().by(b), null);
        } else {
            Frac under = b.times(b).minus(a.times(c).times(Frac.of(4, 1)));
            Frac root = under.root();
            Frac below = a.times(two);
            if (root != null) {
                one = new Root(root.minus(b).by(below), null);
                another = new Root(root.negate().minus(b).by(below), null);
            } else {
                BigDecimal fineRoot = fine(under).sqrt(FINE);
                one = new Root(null, fineRoot.subtract(fine(b)).divide(fine(below), FINE));
                another = new Root(null, fineRoot.negate().subtract(fine(b)).divide(fine(below), FINE));
            }
        }
        return one.ahead(another) ? new Root[] {one, another} : new Root[] {another, one};
    }

    static BigDecimal fine(Frac f) {
        return new BigDecimal(f.upper).divide(new BigDecimal(f.lower), FINE);
    }

    static Frac dot(Seen u, Seen v) {
        return u.r.times(v.r).plus(u.x.times(v.x));
    }

    Root[] spots(int mark, boolean along) {
        Seen z = fine(mark);
        if (z.r.isZero() || z.r.is(Frac.ONE) && z.x.isZero()) {
            return new Root[0];
        }
        return roots(z, (u, l) -> dot(u, l).minus(along ? l.square() : u.square()));
    }

    Root spot(int mark, boolean along, int k) {
        Root[] all = spots(mark, along);
        state(k >= 0 && k < all.length);
        return all[k];
    }

    int places(int mark, boolean along) {
        return spots(mark, along).length;
    }

    boolean isFraction(int mark, boolean along, int k) {
        return spot(mark, along, k).exact != null;
    }

    long place(int mark, boolean along, int k, boolean lower) {
        Root root = spot(mark, along, k);
        state(root.exact != null);
        return root.exact.told(lower);
    }

    long about(int mark, boolean along, int k) {
        Root root = spot(mark, along, k);
        if (root.exact == null) {
            return root.fine.movePointRight(3).setScale(0, RoundingMode.FLOOR).longValueExact();
        }
        if (root.exact.isEndless()) {
            return 1_000_000_000;
        }
        BigInteger[] both = root.exact.upper.multiply(BigInteger.valueOf(1000)).divideAndRemainder(root.exact.lower);
        return both[0].longValueExact() - (both[1].signum() < 0 ? 1 : 0);
    }

    Frac needsExact(int mark, boolean along, Root root) {
        Seen there = at(mark).line(root.exact);
        return (along ? there : there.oneBy()).x.negate();
    }

    long needs(int mark, boolean along, int k, boolean lower) {
        Root root = spot(mark, along, k);
        state(root.exact != null);
        return needsExact(mark, along, root).told(lower);
    }

    BigDecimal needsFine(int mark, boolean along, Root root) {
        if (root.exact != null) {
            return fine(needsExact(mark, along, root));
        }
        Seen z = at(mark);
        BigDecimal r = fine(z.r);
        BigDecimal x = fine(z.x);
        BigDecimal t = root.fine;
        BigDecimal ur = r;
        BigDecimal ux = x.add(t);
        BigDecimal lr = BigDecimal.ONE.subtract(x.multiply(t));
        BigDecimal lx = r.multiply(t);
        BigDecimal square = along ? lr.multiply(lr).add(lx.multiply(lx)) : ur.multiply(ur).add(ux.multiply(ux));
        BigDecimal im = ux.multiply(lr).subtract(ur.multiply(lx)).divide(square, FINE);
        return along ? im.negate() : im;
    }

    long square(int mark, boolean along, boolean lower) {
        Root root = spot(mark, along, 0);
        if (root.exact != null) {
            Frac needs = needsExact(mark, along, root);
            return needs.times(needs).told(lower);
        }
        BigDecimal needs = needsFine(mark, along, root);
        return nearFraction(needs.multiply(needs)).told(lower);
    }

    /** The fraction with a small lower number that a number of 100 digits is. */
    static Frac nearFraction(BigDecimal number) {
        BigInteger p0 = BigInteger.ONE;
        BigInteger q0 = BigInteger.ZERO;
        BigInteger q1 = BigInteger.ONE;
        BigInteger p1 = number.setScale(0, RoundingMode.FLOOR).toBigInteger();
        BigDecimal rest = number.subtract(new BigDecimal(p1));
        for (int i = 0; i < 60 && rest.compareTo(new BigDecimal("1e-40")) > 0; i++) {
            BigDecimal turned = BigDecimal.ONE.divide(rest, FINE);
            BigInteger k = turned.setScale(0, RoundingMode.FLOOR).toBigInteger();
            rest = turned.subtract(new BigDecimal(k));
            if (BigDecimal.ONE.subtract(rest).compareTo(new BigDecimal("1e-40")) < 0) {
                k = k.add(BigInteger.ONE);
                rest = BigDecimal.ZERO;
            }
            BigInteger p2 = k.multiply(p1).add(p0);
            BigInteger q2 = k.multiply(q1).add(q0);
            p0 = p1;
            q0 = q1;
            p1 = p2;
            q1 = q2;
        }
        return Frac.of(p1.longValueExact(), q1.longValueExact());
    }

    int sign(int mark, boolean along, int k) {
        return needsFine(mark, along, spot(mark, along, k)).signum();
    }

    int build(boolean along, int k, boolean open) {
        Root root = spot(elements.size(), along, k);
        state(root.exact != null && elements.size() <= 2);
        Frac s = needsExact(elements.size(), along, root);
        int sort = along ? open ? 3 : 4 : open ? 1 : 2;
        // -1 by it is its own reverse, so s gives t as t gives s.
        Frac t = Seen.s(sort, s);
        state(TANGENTS.stream().anyMatch(root.exact::is) && TANGENTS.stream().anyMatch(t::is));
        elements.add(new int[] {0, root.exact.upper.intValue(), root.exact.lower.intValue()});
        elements.add(new int[] {sort, t.upper.intValue(), t.lower.intValue()});
        return elements.size();
    }

    // ---- two stubs, three

    static void real(Seen z, boolean along) {
        state(along || !z.isZero());
    }

    long real(int mark, boolean along, boolean lower) {
        Seen z = fine(mark);
        real(z, along);
        return z.real(along).told(lower);
    }

    static void distance(int p, int q) {
        argument(isTangent(p, q) && p != 0);
    }

    static Frac greatest(Frac t) {
        return t.isEndless() ? Frac.ONE : Frac.ONE.plus(Frac.ONE.by(t.times(t)));
    }

    int greatest(int p, int q, boolean lower) {
        distance(p, q);
        return (int) greatest(Frac.of(p, q)).told(lower);
    }

    static int waysOf(Frac real, Frac most) {
        if (real.isZero() || real.compareTo(most) > 0) {
            return 0;
        }
        return real.is(most) ? 1 : 2;
    }

    int ways(int mark, boolean along, int p, int q) {
        mark(mark);
        distance(p, q);
        Seen z = fine(mark);
        real(z, along);
        return waysOf(z.real(along), greatest(Frac.of(p, q)));
    }

    static boolean barren(Seen z, boolean along, Frac t) {
        Frac real = z.real(along);
        return real == null || waysOf(real, greatest(t)) == 0;
    }

    static Seen stubbed(Seen z, boolean along, Frac s) {
        return along ? z.along(s) : z.across(s);
    }

    /** What is left to match behind the LINE, when the first one is told: the other part, below 0. */
    static Frac secondFor(Seen z, boolean along, Frac t, Frac first) {
        Seen there = stubbed(z, along, first).line(t);
        Seen told = along ? there : there.oneBy();
        if (!told.r.is(Frac.ONE)) {
            throw new AssertionError("no match");
        }
        return told.x.negate();
    }

    /** Rows of FIRST and SECOND; null in place of fractions that there are not. */
    static Frac[][] pairs(Seen z, boolean along, Frac t) {
        Seen told = along ? z : z.oneBy();
        Frac g = told.r;
        Frac[][] rows = new Frac[waysOf(g, greatest(t))][];
        // The part beside REAL must be such that g (1 + t t) = (1 - part t)^2 + (g t)^2; without end g = g g + part^2.
        Frac under = t.isEndless() ? g.minus(g.times(g))
                : g.times(Frac.ONE.plus(t.times(t))).minus(g.times(g).times(t).times(t));
        Frac root = under.root();
        for (int k = 0; k < rows.length && root != null; k++) {
            Frac side = k == 0 ? root : root.negate();
            Frac part = t.isEndless() ? side : Frac.ONE.minus(side).by(t);
            Frac first = part.minus(told.x);
            rows[k] = new Frac[] {first, secondFor(z, along, t, first)};
        }
        if (rows.length == 2 && rows[0] != null && rows[0][0].compareTo(rows[1][0]) > 0) {
            Frac[] kept = rows[0];
            rows[0] = rows[1];
            rows[1] = kept;
        }
        return rows;
    }

    static long toldPair(Frac[][] rows, int k, boolean second, boolean lower) {
        state(k >= 0 && k < rows.length && rows[k] != null);
        return rows[k][second ? 1 : 0].told(lower);
    }

    long stub(int mark, boolean along, int p, int q, int k, boolean second, boolean lower) {
        ways(mark, along, p, q);
        return toldPair(pairs(at(mark), along, Frac.of(p, q)), k, second, lower);
    }

    int escape(int mark, boolean along, int p, int q, boolean lower) {
        ways(mark, along, p, q);
        Seen z = at(mark);
        state(!z.real(along).isZero());
        for (Frac t : TANGENTS) {
            if (!barren(z.line(t), along, Frac.of(p, q))) {
                return (int) t.told(lower);
            }
        }
        throw new IllegalStateException();
    }

    int rescue(int mark, boolean along, int p, int q, int what) {
        mark(mark);
        what(what >= 0 && what <= 2);
        ways(mark, along, p, q);
        Seen z = at(mark);
        Frac t = Frac.of(p, q);
        state(!z.real(along).isZero());
        for (Frac u : TANGENTS) {
            for (int open = 1; open >= 0; open--) {
                int sort = along ? open == 1 ? 3 : 4 : open == 1 ? 1 : 2;
                if (!barren(z.behind(sort, u).line(t), along, t)) {
                    return what == 2 ? open : (int) u.told(what == 1);
                }
            }
        }
        throw new IllegalStateException();
    }

    int corners(int mark, boolean alongFirst) {
        Seen z = fine(mark);
        real(z, alongFirst);
        return waysOf(z.real(alongFirst), Frac.ONE);
    }

    long corner(int mark, boolean alongFirst, int k, boolean second, boolean lower) {
        int many = corners(mark, alongFirst);
        state(k >= 0 && k < many);
        Seen z = at(mark);
        Seen told = alongFirst ? z : z.oneBy();
        // Behind the first one its 1 by it must have 1 as its real part: g = g g + part^2.
        Frac root = told.r.minus(told.r.times(told.r)).root();
        state(root != null);
        Frac first = (k == 0 ? root.negate() : root).minus(told.x);
        Seen there = alongFirst ? z.along(first) : z.across(first);
        Frac other = (alongFirst ? there.oneBy() : there).x.negate();
        Seen matched = alongFirst ? there.across(other) : there.along(other);
        if (!matched.echo().isZero()) {
            throw new AssertionError("no match");
        }
        return (second ? other : first).told(lower);
    }

    Frac[][] threes(int mark, boolean along, int p, int q, int u, int v) {
        mark(mark);
        distance(p, q);
        argument(u >= -99 && u <= 99 && v >= 1 && v <= 20);
        Seen z = fine(mark);
        real(z, along);
        Seen next = fine(stubbed(z, along, Frac.of(u, v)).line(Frac.of(p, q)));
        real(next, along);
        return pairs(next, along, Frac.of(p, q));
    }

    int three(int mark, boolean along, int p, int q, int u, int v) {
        return threes(mark, along, p, q, u, v).length;
    }

    long ofThree(int mark, boolean along, int p, int q, int u, int v, int k, boolean third, boolean lower) {
        return toldPair(threes(mark, along, p, q, u, v), k, third, lower);
    }

    // ---- extremes

    Root[] extremes(int mark) {
        Seen z = fine(mark);
        state(!(z.r.is(Frac.ONE) && z.x.isZero()));
        return roots(z, (u, l) -> u.x.times(l.r).minus(u.r.times(l.x)));
    }

    long extreme(int mark, boolean second, boolean lower) {
        Root root = extremes(mark)[second ? 1 : 0];
        state(root.exact != null);
        return root.exact.told(lower);
    }

    long swell(int mark, boolean lower) {
        Seen z = fine(mark);
        if (z.r.is(Frac.ONE) && z.x.isZero()) {
            return 1;
        }
        Root[] both = extremes(mark);
        state(both[0].exact != null);
        for (Root root : both) {
            Seen there = z.line(root.exact);
            if (there.isEndless()) {
                return lower ? 0 : 1;
            }
            if (!there.x.isZero()) {
                throw new AssertionError("no extreme");
            }
            if (there.r.compareTo(Frac.ONE) >= 0) {
                return there.r.told(lower);
            }
        }
        throw new AssertionError("no swell");
    }

    boolean isHigh(int mark) {
        Root first = extremes(mark)[0];
        Seen z = at(mark);
        if (first.exact != null) {
            Seen there = z.line(first.exact);
            return there.isEndless() || there.r.compareTo(Frac.ONE) > 0;
        }
        BigDecimal r = fine(z.r);
        BigDecimal x = fine(z.x);
        BigDecimal t = first.fine;
        BigDecimal lr = BigDecimal.ONE.subtract(x.multiply(t));
        BigDecimal lx = r.multiply(t);
        BigDecimal dot = r.multiply(lr).add(x.add(t).multiply(lx));
        return dot.compareTo(lr.multiply(lr).add(lx.multiply(lx))) > 0;
    }

    // ---- searches

    int exact(int m, int k, int what) {
        what(what >= 0 && what <= 4);
        argument(m >= 1 && m <= 12);
        state(elements.size() <= 2);
        List<int[]> rows = new ArrayList<>();
        Seen z = at(elements.size());
        for (Frac t : within(m)) {
            Seen there = z.line(t);
            if (there.isZero() || there.isEndless() || !there.oneBy().r.is(Frac.ONE)) {
                continue;
            }
            for (Frac u : within(m)) {
                for (int open = 1; open >= 0; open--) {
                    if (there.behind(open == 1 ? 1 : 2, u).echo().isZero()) {
                        rows.add(new int[] {(int) t.told(false), (int) t.told(true), open,
                            (int) u.told(false), (int) u.told(true)});
                    }
                }
            }
        }
        if (k == -1) {
            return rows.size();
        }
        return k >= 0 && k < rows.size() ? rows.get(k)[what] : -1;
    }

    int best(int m, int what) {
        what(what >= 0 && what <= 5);
        argument(m >= 1 && m <= 4);
        state(elements.size() <= 2);
        Seen z = at(elements.size());
        Frac least = null;
        int[] row = null;
        for (Frac t : within(m)) {
            Seen there = z.line(t);
            for (Frac u : within(m)) {
                for (int open = 1; open >= 0; open--) {
                    Frac echo = there.behind(open == 1 ? 1 : 2, u).echo();
                    if (least == null || echo.compareTo(least) < 0) {
                        least = echo;
                        row = new int[] {(int) t.told(false), (int) t.told(true), open,
                            (int) u.told(false), (int) u.told(true), echo.partsDown()};
                    }
                }
            }
        }
        return row[what];
    }

    int tuned(int m, int what) {
        what(what >= 0 && what <= 3);
        argument(m >= 1 && m <= 12);
        state(!elements.isEmpty());
        Frac least = null;
        int[] row = null;
        for (int i = 0; i < elements.size(); i++) {
            Seen ahead = at(i);
            for (Frac t : within(m)) {
                Frac echo = through(ahead.behind(elements.get(i)[0], t), elements.subList(i + 1, elements.size())).echo();
                if (least == null || echo.compareTo(least) < 0) {
                    least = echo;
                    row = new int[] {i, (int) t.told(false), (int) t.told(true), echo.partsDown()};
                }
            }
        }
        return row[what];
    }

    List<Frac[]> ring(int mark, boolean along, int n) {
        Seen z = fine(mark);
        real(z, along);
        List<Frac[]> all = new ArrayList<>();
        for (Frac t : within(n)) {
            Frac real = z.line(t).real(along);
            if (real != null) {
                all.add(new Frac[] {real, t});
            }
        }
        return all;
    }

    int circle(int mark, boolean along, int n, int u, int v) {
        mark(mark);
        argument(n >= 1 && n <= 12 && u >= 0 && u <= 99 && v >= 1 && v <= 20);
        int many = 0;
        for (Frac[] row : ring(mark, along, n)) {
            if (row[0].compareTo(Frac.of(u, v)) >= 0) {
                many++;
            }
        }
        return many;
    }

    long rim(int mark, boolean along, int n, boolean least, int what) {
        mark(mark);
        what(what >= 0 && what <= 3);
        argument(n >= 1 && n <= 12);
        Frac[] found = null;
        for (Frac[] row : ring(mark, along, n)) {
            if (found == null || (least ? row[0].compareTo(found[0]) < 0 : row[0].compareTo(found[0]) > 0)) {
                found = row;
            }
        }
        return found[what / 2].told(what % 2 == 1);
    }

    int split(int mark, int p, int q, boolean open, int what) {
        mark(mark);
        what(what >= 0 && what <= 2);
        argument(isTangent(p, q));
        state(mark <= 1);
        int sort = open ? 1 : 2;
        Seen z = at(mark).behind(sort, Frac.of(p, q));
        Frac least = null;
        Frac by = null;
        for (Frac u : TANGENTS) {
            Frac echo = z.line(u).behind(sort, Frac.of(p, q)).echo();
            if (least == null || echo.compareTo(least) < 0) {
                least = echo;
                by = u;
            }
        }
        return what == 2 ? least.partsDown() : (int) by.told(what == 1);
    }

    int filter(int n, int what) {
        what(what >= 0 && what <= 3);
        argument(n == 2 || n == 3);
        state(elements.size() < 4);
        Seen z = at(elements.size());
        Frac least = Frac.ONE;
        int[] row = {-1, -1, -1, -1};
        for (Frac t : TANGENTS) {
            for (int open = 1; open >= 0; open--) {
                int sort = open == 1 ? 1 : 2;
                Frac echo = z.behind(sort, t).echo();
                if (Seen.s(sort, timesOf(t, n)).isEndless() && echo.compareTo(least) < 0) {
                    least = echo;
                    row = new int[] {(int) t.told(false), (int) t.told(true), open, echo.partsDown()};
                }
            }
        }
        return row[what];
    }

    List<Integer> order() {
        List<List<Integer>> rows = new ArrayList<>();
        rowsOf(new ArrayList<>(), rows);
        List<Integer> found = null;
        Frac least = null;
        for (List<Integer> row : rows) {
            Frac echo = through(loadSeen(), inOrder(row)).echo();
            if (least == null || echo.compareTo(least) < 0) {
                least = echo;
                found = row;
            }
        }
        return found;
    }

    void rowsOf(List<Integer> begun, List<List<Integer>> rows) {
        if (begun.size() == elements.size()) {
            rows.add(new ArrayList<>(begun));
            return;
        }
        for (int i = 0; i < elements.size(); i++) {
            if (!begun.contains(i)) {
                begun.add(i);
                rowsOf(begun, rows);
                begun.remove(begun.size() - 1);
            }
        }
    }

    List<int[]> inOrder(List<Integer> row) {
        List<int[]> all = new ArrayList<>();
        for (int i : row) {
            all.add(elements.get(i));
        }
        return all;
    }

    int placement(int k) {
        return k >= 0 && k < elements.size() ? order().get(k) : -1;
    }

    int arrange() {
        elements = inOrder(order());
        return at(elements.size()).echo().partsDown();
    }

    int drift(int what) {
        what(what == 0 || what == 1);
        int now = at(elements.size()).echo().partsDown();
        int[] row = {-1, 0};
        for (int i = 0; i < elements.size(); i++) {
            int at = -1;
            for (int k = 0; k < TANGENTS.size(); k++) {
                if (TANGENTS.get(k).is(tangentOf(elements.get(i)))) {
                    at = k;
                }
            }
            for (int step : new int[] {1, TANGENTS.size() - 1}) {
                Frac t = TANGENTS.get((at + step) % TANGENTS.size());
                List<int[]> changed = new ArrayList<>(elements);
                changed.set(i, new int[] {elements.get(i)[0], (int) t.told(false), (int) t.told(true)});
                int more = through(loadSeen(), changed).echo().partsDown() - now;
                if (row[0] < 0 || more > row[1]) {
                    row = new int[] {i, more};
                }
            }
        }
        return row[what];
    }

    // ---- wide, long

    int wideOf(int[] load, List<int[]> elements) {
        int wide = -1;
        for (int k = 0; k <= 10; k++) {
            for (int j = -k; j <= k; j++) {
                if (variant(load, elements, j, true).echo().compareTo(Frac.of(limit[0], limit[1])) > 0) {
                    return wide;
                }
            }
            wide = k;
        }
        return wide;
    }

    int wide() {
        return wideOf(load, elements);
    }

    static int halves(List<int[]> elements) {
        double all = 0;
        for (int[] e : elements) {
            double angle = Math.atan2(e[1], e[2]);
            all += angle < 0 ? angle + Math.PI : angle;
        }
        return (int) Math.floor(all / Math.PI + 1e-9);
    }

    static Frac rest(List<int[]> elements) {
        Frac all = Frac.ZERO;
        for (int[] e : elements) {
            all = together(all, tangentOf(e));
        }
        return all;
    }

    long length(int what) {
        what(what >= 0 && what <= 2);
        return what == 0 ? halves(elements) : rest(elements).told(what == 2);
    }

    int rank(int k) {
        List<Integer> all = new ArrayList<>();
        for (int i = 0; i < 4; i++) {
            if (shelfLoad[i] != null) {
                all.add(i);
            }
        }
        all.sort((i, j) -> {
            int wide = Integer.compare(wideOf(shelfLoad[j], shelfElements.get(j)), wideOf(shelfLoad[i], shelfElements.get(i)));
            if (wide != 0) {
                return wide;
            }
            int halves = Integer.compare(halves(shelfElements.get(i)), halves(shelfElements.get(j)));
            if (halves != 0) {
                return halves;
            }
            return Frac.compareLengths(rest(shelfElements.get(i)), rest(shelfElements.get(j)));
        });
        return k >= 0 && k < all.size() ? all.get(k) : -1;
    }

    int count(int what) {
        switch (what) {
            case 0: return elements.size();
            case 1: return load[0];
            case 2: return load[1];
            case 3: return load[2];
            case 4: return limit[0];
            case 5: return limit[1];
            case 6: {
                int bits = 0;
                for (int i = 0; i < 4; i++) {
                    bits += shelfLoad[i] == null ? 0 : 1 << i;
                }
                return bits;
            }
            case 7: return at(elements.size()).echo().isZero() ? 1 : 0;
            case 8: {
                int found = 0;
                for (int n = 1; n <= 3; n++) {
                    found = isWithin(n, false) ? n : found;
                }
                return found;
            }
            case 9: {
                int bits = 0;
                for (int n = 1; n <= 3; n++) {
                    bits += variantEcho(n, false).is(Frac.ONE) ? 1 << n : 0;
                }
                return bits;
            }
            default: return -1;
        }
    }
}
