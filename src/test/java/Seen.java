/** What is SEEN, by the document's formulas and limits, word for word; for the tests alone. */
final class Seen {
    static final Seen ENDLESS = new Seen(null, null);
    static final Seen ONE = new Seen(Frac.ONE, Frac.ZERO);

    final Frac r;
    final Frac x;

    Seen(Frac r, Frac x) {
        this.r = r;
        this.x = x;
    }

    boolean isEndless() {
        return r == null;
    }

    boolean isZero() {
        return r != null && r.isZero() && x.isZero();
    }

    Seen plus(Seen o) {
        return new Seen(r.plus(o.r), x.plus(o.x));
    }

    Seen times(Seen o) {
        return new Seen(r.times(o.r).minus(x.times(o.x)), r.times(o.x).plus(x.times(o.r)));
    }

    Frac square() {
        return r.times(r).plus(x.times(x));
    }

    Seen oneBy() {
        if (isEndless()) {
            return new Seen(Frac.ZERO, Frac.ZERO);
        }
        if (isZero()) {
            return ENDLESS;
        }
        return new Seen(r.by(square()), x.negate().by(square()));
    }

    static Seen j(Frac t) {
        return new Seen(Frac.ZERO, t);
    }

    Seen line(Frac t) {
        if (t.isEndless()) {
            return oneBy();
        }
        if (isEndless()) {
            return j(t).oneBy();
        }
        Seen below = ONE.plus(times(j(t)));
        return below.isZero() ? ENDLESS : plus(j(t)).times(below.oneBy());
    }

    Seen across(Frac s) {
        if (isZero()) {
            return this;
        }
        if (s.isEndless()) {
            return new Seen(Frac.ZERO, Frac.ZERO);
        }
        return oneBy().plus(j(s)).oneBy();
    }

    Seen along(Frac s) {
        if (isEndless() || s.isEndless()) {
            return ENDLESS;
        }
        return plus(j(s));
    }

    static Frac s(int sort, Frac t) {
        boolean isT = sort == 1 || sort == 4;
        return isT ? t : t.isZero() ? Frac.ENDLESS : t.isEndless() ? Frac.ZERO : Frac.ONE.negate().by(t);
    }

    Seen behind(int sort, Frac t) {
        if (sort == 0) {
            return line(t);
        }
        return sort <= 2 ? across(s(sort, t)) : along(s(sort, t));
    }

    Frac echo() {
        if (isEndless()) {
            return Frac.ONE;
        }
        Seen less = new Seen(r.minus(Frac.ONE), x);
        Seen more = new Seen(r.plus(Frac.ONE), x);
        return less.square().by(more.square());
    }

    /** null, where it is not told. */
    Frac real(boolean along) {
        Seen z = along ? this : oneBy();
        return z.isEndless() ? null : z.r;
    }
}
