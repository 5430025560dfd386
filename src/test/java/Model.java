import java.math.BigInteger;
import java.util.ArrayList;
import java.util.Arrays;
import java.util.List;
import java.util.function.IntFunction;
import java.util.function.ToIntFunction;

/**
 * The document told a second time, slowly and without any thought for room: each quarter makes a new county.
 * Random runs hold LastPenny against it, so it shares no code and as little form as may be with the class.
 */
final class Model {
    static final int BAD = -1, STATE = -2, FULL = -3, NONE = -4;

    record One(int kind, int means, int trade, int kept) {
        One withMeans(int m) { return new One(kind, Math.min(999, Math.max(0, m)), trade, kept); }
        One withKind(int k) { return new One(k, means, trade, kept); }
        One withTrade(int t) { return new One(kind, means, t, kept); }
        One keptMore() { return new One(kind, means, trade, kept + 1); }
    }

    record Gift(int quarter, int from, int to, int much) { }

    record Seen(int behind, int who) { }

    record County(List<One> people, int quarter, int slump, int coin, List<Gift> gifts, List<Seen> seen) {
        boolean has(int p) { return p >= 0 && p < people.size(); }
        One at(int p) { return people.get(p); }
        County with(int p, One one) {
            List<One> list = new ArrayList<>(people);
            list.set(p, one);
            return withPeople(list);
        }
        County withPeople(List<One> l) { return new County(List.copyOf(l), quarter, slump, coin, gifts, seen); }
        County withSlump(int s) { return new County(people, quarter, s, coin, gifts, seen); }
        County withCoin(int c) { return new County(people, quarter, slump, c, gifts, seen); }
        County withGifts(List<Gift> g) { return new County(people, quarter, slump, coin, List.copyOf(g), seen); }
        County withSeen(List<Seen> s) { return new County(people, quarter, slump, coin, gifts, List.copyOf(s)); }
        County plusGift(Gift g) {
            List<Gift> list = new ArrayList<>(gifts);
            list.add(g);
            return withGifts(list);
        }
        int all() { return people.stream().mapToInt(One::means).sum(); }
        int ruined() { return (int) people.stream().filter(o -> o.means == 0).count(); }
        int ruinedBits() {
            int b = 0;
            for (int p = 0; p < people.size(); p++) b += at(p).means == 0 ? 1 << p : 0;
            return b;
        }
        int where() { return people.isEmpty() ? NONE : coin; }

        int tradeBrings(int p) {
            double plain = at(p).trade - 10 - slump;
            return switch (at(p).kind) {
                case 0, 3 -> (int) plain;
                case 1 -> (int) plain + 1;
                default -> (int) ((plain + 1) / 2.0);
            };
        }
        int coinBrings(int p) {
            if (at(p).kind == 1) return 0;
            if (at(p).kind == 2) return 15;
            if (at(p).kind == 0) return 5;
            long less = people.stream().filter(o -> o.means < at(p).means).count();
            return (int) (5 + 2 * less);
        }
        int brings(int p) { return tradeBrings(p) + (coin == p ? coinBrings(p) : 0); }

        County next() {
            County c = this;
            for (Gift g : gifts) {
                if (g.quarter != quarter) continue;
                int much = Math.min(g.much, c.at(g.from).means);
                c = c.with(g.from, c.at(g.from).withMeans(c.at(g.from).means - much));
                c = c.with(g.to, c.at(g.to).withMeans(c.at(g.to).means + much));
            }
            List<One> after = new ArrayList<>();
            for (int p = 0; p < c.people.size(); p++) after.add(c.at(p).withMeans(c.at(p).means + c.brings(p)));
            c = c.withPeople(after);
            int to = c.handsTo();
            if (to >= 0) c = c.withCoin(to);
            else if (!people.isEmpty()) c = c.with(coin, c.at(coin).keptMore());
            return new County(c.people, quarter + 1, slump, c.coin, gifts, seen);
        }

        private int handsTo() {
            int size = people.size();
            if (size < 2) return -1;
            One h = at(coin);
            boolean hands = h.kind == 1 ? h.means == 0 : h.means > 9;
            if (!hands) return -1;
            int least = Integer.MAX_VALUE;
            for (int p = 0; p < size; p++) if (p != coin) least = Math.min(least, at(p).means);
            int p = coin;
            do { p = p + 1 == size ? 0 : p + 1; } while (p == coin || at(p).means != least);
            return p;
        }

        /** The counties behind 0 to n quarters. */
        List<County> film(int n) {
            List<County> f = new ArrayList<>();
            f.add(this);
            for (int i = 0; i < n; i++) f.add(f.get(i).next());
            return f;
        }
        County after(int n) { return film(n).get(n); }

        boolean asSeen() {
            List<County> f = film(20);
            return seen.stream().allMatch(s -> f.get(s.behind).coin == s.who);
        }
    }

    County c = empty();
    StringBuilder tape = new StringBuilder();
    int fault, torn;
    County[] images = new County[2];
    Object[] sheets = new Object[4];

    static County empty() { return new County(List.of(), 0, 0, 0, List.of(), List.of()); }

    static boolean in(int v, int lo, int hi) { return lo <= v && v <= hi; }

    int feed(int b) {
        if (!in(b, 0, 127)) return BAD;
        if (tape.length() == 160) return FULL;
        tape.append((char) b);
        return tape.length();
    }

    int end(int n) {
        int had = tape.length();
        if (!in(n, 0, had)) return BAD;
        tape.setLength(n);
        return had;
    }

    @SuppressWarnings("serial")
    private static final class Broken extends RuntimeException {
        final int which, place;
        Broken(int which, int place) { this.which = which; this.place = place; }
    }

    private String source;
    private int pos, tokenAt;

    private String token() {
        while (pos < source.length() && source.charAt(pos) == ' ') pos++;
        tokenAt = pos;
        if (pos == source.length()) return "";
        String rest = source.substring(pos);
        String t = rest.replaceAll("(?s)^([a-z]+|[0-9]+|;).*$", "$1");
        if (t.equals(rest) && !rest.matches("[a-z]+|[0-9]+|;")) throw new Broken(1, pos);
        if (t.matches("[0-9]{3,}")) throw new Broken(1, pos);
        pos += t.length();
        return t;
    }

    private int number(int lo, int hi, int not) {
        String t = token();
        if (!t.matches("[0-9]+")) throw new Broken(2, tokenAt);
        int v = Integer.parseInt(t);
        if (!in(v, lo, hi) || v == not) throw new Broken(3, tokenAt);
        return v;
    }

    int text() {
        source = tape.toString();
        tape.setLength(0);
        pos = 0;
        try {
            int lines = parse();
            fault = 0;
            images = new County[2];
            return lines;
        } catch (Broken b) {
            fault = b.which;
            return -10 - b.place;
        }
    }

    private int parse() {
        List<One> people = new ArrayList<>();
        List<Gift> gifts = new ArrayList<>();
        int slump = -1, coin = -1, lines = 0;
        for (String t = token(); !t.isEmpty(); t = token()) {
            int kind = Arrays.asList("plain", "miser", "founder", "lucky").indexOf(t);
            if (kind >= 0) {
                if (people.size() == 5) throw new Broken(5, tokenAt);
                people.add(new One(kind, number(0, 99, -1), number(0, 20, -1), 0));
            } else if (t.equals("slump")) {
                if (slump >= 0) throw new Broken(4, tokenAt);
                slump = number(0, 9, -1);
            } else if (t.equals("coin")) {
                if (coin >= 0) throw new Broken(4, tokenAt);
                coin = number(0, 4, -1);
            } else if (t.equals("gift")) {
                if (gifts.size() == 4) throw new Broken(5, tokenAt);
                int q = number(0, 20, -1), from = number(0, 4, -1), to = number(0, 4, from);
                gifts.add(new Gift(q, from, to, number(1, 20, -1)));
            } else {
                throw new Broken(2, tokenAt);
            }
            if (!token().equals(";")) throw new Broken(2, tokenAt);
            lines++;
        }
        int size = people.size();
        boolean missing = coin >= size || gifts.stream().anyMatch(g -> g.from >= size || g.to >= size);
        if (missing) throw new Broken(6, source.length());
        c = new County(List.copyOf(people), 0, Math.max(0, slump), Math.max(0, coin), List.copyOf(gifts), List.of());
        return lines;
    }

    int fault() { return fault; }

    int rule(int what) {
        if (!in(what, 0, 6)) return BAD;
        return new int[] {c.people.size(), c.quarter, c.slump, c.where(), c.all(), c.ruinedBits(), c.gifts.size()}[what];
    }

    int one(int p, int what) {
        if (!c.has(p) || !in(what, 0, 4)) return BAD;
        One o = c.at(p);
        return new int[] {o.kind, o.means, o.trade, o.kept, c.brings(p)}[what];
    }

    int gift(int i, int what) {
        if (!in(i, 0, c.gifts.size() - 1) || !in(what, 0, 3)) return BAD;
        Gift g = c.gifts.get(i);
        return new int[] {g.quarter, g.from, g.to, g.much}[what];
    }

    int alter(int p, int what, int v) {
        if (!c.has(p) || !in(what, 0, 2) || !in(v, 0, new int[] {3, 999, 20}[what])) return BAD;
        int was = one(p, what);
        One o = c.at(p);
        c = c.with(p, what == 0 ? o.withKind(v) : what == 1 ? o.withMeans(v) : o.withTrade(v));
        return was;
    }

    int slump(int v) {
        if (!in(v, 0, 9)) return BAD;
        int was = c.slump;
        c = c.withSlump(v);
        return was;
    }

    int hand(int p) {
        if (!c.has(p)) return BAD;
        int was = c.coin;
        c = c.withCoin(p);
        return was;
    }

    int give(int q, int p, int r, int n) {
        if (!in(q, 0, 20) || !c.has(p) || !c.has(r) || p == r || !in(n, 1, 20)) return BAD;
        if (c.gifts.size() == 4) return FULL;
        c = c.plusGift(new Gift(q, p, r, n));
        return c.gifts.size();
    }

    int drop(int n) {
        int had = c.gifts.size();
        if (!in(n, 0, had)) return BAD;
        c = c.withGifts(c.gifts.subList(0, n));
        return had;
    }

    int quarters(int n) {
        if (!in(n, 0, 30)) return BAD;
        if (c.quarter + n >= 1000) return FULL;
        c = c.after(n);
        return c.where();
    }

    int runs(int n, int what) {
        if (!in(n, 0, 60) || !in(what, 0, 4)) return BAD;
        List<County> f = c.film(n);
        County last = f.get(n);
        if (what == 0) return last.all();
        if (what == 1) return last.ruinedBits();
        if (what == 4) return last.where();
        int handed = 0;
        for (int q = 1; q <= n; q++) {
            if (what == 3 && f.get(q).ruined() > 0) return q;
            if (f.get(q).coin != f.get(q - 1).coin) handed++;
        }
        return what == 3 ? NONE : handed;
    }

    int ahead(int p, int n, int what) {
        if (!c.has(p) || !in(n, 0, 60) || !in(what, 0, 1)) return BAD;
        List<County> f = c.film(n);
        if (what == 0) return f.get(n).at(p).means;
        return (int) f.subList(1, n + 1).stream().filter(d -> d.at(p).means == 0).count();
    }

    private static int comes(County from, int p) {
        List<County> f = from.film(60);
        for (int q = 0; q <= 60; q++) if (f.get(q).coin == p) return q;
        return NONE;
    }

    int soonest(int p) { return c.has(p) ? comes(c, p) : BAD; }

    private static long lowest(BigInteger a, BigInteger b, int what) {
        BigInteger g = a.gcd(b);
        return (what == 0 ? a : b).divide(g).longValueExact();
    }

    long share(int p, int n, int what) {
        if (!c.has(p) || !in(n, 1, 60) || !in(what, 0, 1)) return BAD;
        long with = c.film(n).subList(1, n + 1).stream().filter(d -> d.coin == p).count();
        return lowest(BigInteger.valueOf(with), BigInteger.valueOf(n), what);
    }

    int round() {
        if (c.people.isEmpty()) return NONE;
        List<County> f = c.film(60);
        for (int q = 1; q <= 60; q++) {
            if (f.subList(0, q + 1).stream().map(County::coin).distinct().count() == c.people.size()) return q;
        }
        return NONE;
    }

    /** Of choices 0 to last the one with the least score (a score of null does not stand): {choice, score} or null. */
    private static int[] least(int last, IntFunction<Integer> score) {
        int[] best = null;
        for (int i = last; i >= 0; i--) {
            Integer s = score.apply(i);
            if (s != null && (best == null || s <= best[1])) best = new int[] {i, s};
        }
        return best;
    }

    int trade(int p, int what) {
        if (!c.has(p) || !in(what, 0, 1)) return BAD;
        int[] b = least(20, t -> {
            int q = comes(c.with(p, c.at(p).withTrade(t)), p);
            return q == NONE ? null : q;
        });
        return b == null ? NONE : b[what];
    }

    int keeper(int n, int what) {
        if (!in(n, 0, 60) || !in(what, 0, 1)) return BAD;
        int[] b = least(c.people.size() - 1, p -> -c.withCoin(p).after(n).all());
        return b == null ? NONE : what == 0 ? b[0] : -b[1];
    }

    int kind(int p, int n, int what) {
        if (!c.has(p) || !in(n, 0, 60) || !in(what, 0, 1)) return BAD;
        int[] b = least(3, k -> -c.with(p, c.at(p).withKind(k)).after(n).at(p).means);
        return what == 0 ? b[0] : -b[1];
    }

    int alms(int p, int n) {
        if (!c.has(p) || !in(n, 0, 60)) return BAD;
        for (int a = 0; a <= 99; a++) {
            List<County> f = c.with(p, c.at(p).withMeans(c.at(p).means + a)).film(n);
            if (f.subList(1, n + 1).stream().noneMatch(d -> d.at(p).means == 0)) return a;
        }
        return NONE;
    }

    int help(int n, int what) {
        if (!in(n, 0, 20) || !in(what, 0, 1)) return BAD;
        if (c.gifts.size() == 4) return FULL;
        int asIs = c.after(n).ruined();
        int[] b = least(4420, code -> {
            int p = code / 1000, r = code / 100 % 10, m = code % 100;
            if (!c.has(p) || !c.has(r) || p == r || !in(m, 1, 20)) return null;
            int ruined = c.plusGift(new Gift(c.quarter, p, r, m)).after(n).ruined();
            return ruined < asIs ? ruined : null;
        });
        return b == null ? NONE : b[what];
    }

    int swap(int n, int what) {
        if (!in(n, 0, 60) || !in(what, 0, 1)) return BAD;
        int asIs = c.after(n).ruined();
        int[] b = least(44, code -> {
            int p = code / 10, r = code % 10;
            if (!c.has(p) || !c.has(r) || p >= r) return null;
            int x = c.at(p).trade, y = c.at(r).trade;
            int ruined = c.with(p, c.at(p).withTrade(y)).with(r, c.at(r).withTrade(x)).after(n).ruined();
            return ruined < asIs ? ruined : null;
        });
        return b == null ? NONE : b[what];
    }

    private static BigInteger weigh(County d, int slump, int v, int n, ToIntFunction<County> of) {
        if (n == 0) return BigInteger.valueOf(of.applyAsInt(d));
        BigInteger slumped = weigh(d.withSlump(9).next(), slump, v, n - 1, of);
        BigInteger not = weigh(d.withSlump(slump).next(), slump, v, n - 1, of);
        return slumped.multiply(BigInteger.valueOf(v)).add(not.multiply(BigInteger.valueOf(10 - v)));
    }

    private long odds(int v, int p, int n, int what, ToIntFunction<County> of) {
        if (!in(v, 0, 10) || !c.has(p) || !in(n, 0, 8) || !in(what, 0, 1)) return BAD;
        return lowest(weigh(c, c.slump, v, n, of), BigInteger.TEN.pow(n), what);
    }

    long luck(int v, int p, int n, int what) { return odds(v, p, n, what, d -> d.coin == p ? 1 : 0); }

    long mean(int v, int p, int n, int what) { return odds(v, p, n, what, d -> d.at(p).means); }

    int see(int n, int p) {
        if (!in(n, 0, 20) || !c.has(p)) return BAD;
        if (c.seen.size() == 6) return FULL;
        List<Seen> l = new ArrayList<>(c.seen);
        l.add(new Seen(n, p));
        c = c.withSeen(l);
        return l.size();
    }

    int forget(int n) {
        int had = c.seen.size();
        if (!in(n, 0, had)) return BAD;
        c = c.withSeen(c.seen.subList(0, n));
        return had;
    }

    private static int bits(int last, IntFunction<County> by) {
        int b = 0;
        for (int i = 0; i <= last; i++) if (by.apply(i).asSeen()) b |= 1 << i;
        return b;
    }

    int kinds(int p) { return c.has(p) ? bits(3, k -> c.with(p, c.at(p).withKind(k))) : BAD; }

    int trades(int p) { return c.has(p) ? bits(20, t -> c.with(p, c.at(p).withTrade(t))) : BAD; }

    int ask(int p, int what) {
        if (!c.has(p) || !in(what, 0, 1)) return BAD;
        int fits = trades(p);
        int[] b = least(20, q -> {
            int[] left = new int[5];
            for (int t = 0; t <= 20; t++) if ((fits >> t & 1) == 1) left[c.with(p, c.at(p).withTrade(t)).after(q).coin]++;
            int worst = Arrays.stream(left).max().getAsInt();
            return worst < Integer.bitCount(fits) ? worst : null;
        });
        return b == null ? NONE : b[what];
    }

    int drift(int seed, int n, int what) {
        if (!in(n, 1, 60) || !in(what, 0, 1)) return BAD;
        if (c.people.isEmpty()) return STATE;
        County d = c;
        long s = seed;
        for (int i = 0; i < n; i++) {
            s = (s * 1103515245L + 12345L) & 0xFFFFFFFFL;
            d = d.withSlump((int) ((s & 0x7FFFFFFFL) / 65536L % 10L)).next();
        }
        return what == 0 ? d.all() : d.coin;
    }

    int keep(int k) {
        if (!in(k, 0, 1)) return BAD;
        int was = images[k] == null ? 0 : 1;
        images[k] = c;
        return was;
    }

    int back(int k) {
        if (!in(k, 0, 1)) return BAD;
        if (images[k] == null) return STATE;
        c = images[k];
        return c.quarter;
    }

    int sheet(int k, int lane, int n) {
        if (!in(k, 0, 3) || !in(lane, 0, 2) || n > 40) return BAD;
        if (n < 0) return -14;
        sheets[k] = lane == 0 ? new byte[n] : lane == 1 ? new short[n] : new int[n];
        return 1;
    }

    int lay(int k, int i, int v) {
        if (!in(k, 0, 3)) return BAD;
        try {
            if (sheets[k] instanceof byte[] b) b[i] = (byte) v;
            else if (sheets[k] instanceof short[] s) s[i] = (short) v;
            else ((int[]) sheets[k])[i] = v;
            return 1;
        } catch (NullPointerException e) {
            return -11;
        } catch (ArrayIndexOutOfBoundsException e) {
            return -12;
        }
    }

    private int cell(int k, int lane, int i) {
        return lane == 0 ? ((byte[]) sheets[k])[i] : lane == 1 ? ((short[]) sheets[k])[i] : ((int[]) sheets[k])[i];
    }

    int read(int k, int lane, int f, int n) {
        if (!in(k, 0, 3) || !in(lane, 0, 2) || !in(n, 0, 20)) return BAD;
        County before = c;
        int found = 0, i = 0;
        try {
            for (; i < n; i++) {
                int p = cell(k, lane, f + 2 * i), m = cell(k, lane, f + 2 * i + 1);
                if (c.quarter == 999 || alter(p, 1, m) == BAD) {
                    c = before;
                    return -20 - i;
                }
                c = c.next();
            }
        } catch (NullPointerException e) {
            found = 1;
        } catch (ArrayIndexOutOfBoundsException e) {
            found = 2;
        } catch (ClassCastException e) {
            found = 3;
        }
        torn = found;
        return i;
    }

    int torn() { return torn; }

    int count(int what) {
        return switch (what) {
            case 0 -> c.seen.size();
            case 1 -> (images[0] == null ? 0 : 1) + (images[1] == null ? 0 : 1);
            case 2 -> tape.length();
            case 3 -> sheets[0] == null ? NONE : java.lang.reflect.Array.getLength(sheets[0]);
            case 4 -> c.people.stream().mapToInt(One::kept).sum();
            default -> BAD;
        };
    }
}
