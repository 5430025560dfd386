import java.util.Random;

/** Random runs of calls: each answer of LastPenny is held against that of the model. */
public final class ModelTest {
    private static final int CALLS = 512;
    private static final String[] KINDS = {"plain", "miser", "founder", "lucky"};

    private final Random random;
    private final LastPenny real = new LastPenny();
    private final Model model = new Model();
    private final StringBuilder log = new StringBuilder();
    private int calls;
    private String wrong;

    private ModelTest(long seed) { random = new Random(seed); }

    public static void main(String[] args) {
        int runs = args.length > 0 ? Integer.parseInt(args[0]) : 600;
        int failed = 0;
        for (int run = 0; run < runs && failed < 3; run++) {
            ModelTest t = new ModelTest(run);
            t.go();
            if (t.wrong != null) {
                failed++;
                System.out.println("seed " + run + ": " + t.wrong + "\n" + t.log);
            }
        }
        System.out.println("ModelTest: " + (failed == 0 ? runs + " runs as the model" : "wrong"));
        if (failed != 0) System.exit(1);
    }

    private void check(String call, long got, long want) {
        // What an object answers behind its 512th call is free, so it is not looked at.
        if (calls == CALLS) return;
        calls++;
        log.append(call).append(" = ").append(got).append('\n');
        if (got != want && wrong == null) wrong = call + " answered " + got + ", the model says " + want;
    }

    private boolean goesOn() { return calls < CALLS && wrong == null; }

    /** Mostly from low to high, at times just outside, seldom far away. */
    private int near(int low, int high) {
        int r = random.nextInt(40);
        if (r == 0) return low - 1;
        if (r == 1) return high + 1;
        if (r == 2) return random.nextInt();
        if (r == 3) return high;
        if (r == 4) return low;
        return low + random.nextInt(high - low + 1);
    }

    private int person() { return near(0, Math.max(0, model.c.people().size() - 1)); }

    private void go() {
        if (random.nextInt(8) != 0) tell(goodText());
        if (random.nextInt(8) == 0) growOld();
        while (goesOn()) {
            if (random.nextInt(60) == 0) tell(random.nextInt(3) == 0 ? goodText() : brokenText());
            else if (random.nextInt(40) == 0) fillSheet();
            else call(random.nextInt(40));
        }
    }

    /** Up to quarter 990, so that quarters() and read() come to where they are refused. */
    private void growOld() {
        for (int i = 0; i < 33; i++) check("quarters(30)", real.quarters(30), model.quarters(30));
    }

    private void tell(String text) {
        for (int i = 0; i < text.length() && goesOn(); i++) {
            int c = text.charAt(i);
            check("feed(" + c + ")", real.feed(c), model.feed(c));
        }
        check("text()", real.text(), model.text());
        check("fault()", real.fault(), model.fault());
    }

    private String goodText() {
        StringBuilder s = new StringBuilder();
        int people = random.nextInt(12) == 0 ? random.nextInt(2) : 2 + random.nextInt(4);
        for (int p = 0; p < people; p++) {
            s.append(KINDS[random.nextInt(4)]).append(' ').append(random.nextInt(random.nextBoolean() ? 12 : 60));
            s.append(' ').append(random.nextInt(4) == 0 ? random.nextInt(21) : 6 + random.nextInt(8)).append(';');
        }
        if (random.nextBoolean()) s.append("slump ").append(random.nextInt(4)).append(';');
        if (people > 0 && random.nextBoolean()) s.append("coin ").append(random.nextInt(people)).append(';');
        for (int g = random.nextInt(3); g > 0 && people > 1; g--) {
            int from = random.nextInt(people);
            int to = (from + 1 + random.nextInt(people - 1)) % people;
            s.append("gift ").append(random.nextInt(8)).append(' ').append(from).append(' ').append(to);
            s.append(' ').append(1 + random.nextInt(20)).append(';');
        }
        return s.toString();
    }

    private String brokenText() {
        StringBuilder s = new StringBuilder(goodText());
        for (int i = random.nextInt(3); i >= 0; i--) {
            int at = random.nextInt(s.length() + 1);
            int how = random.nextInt(5);
            if (how == 0 && at < s.length()) s.deleteCharAt(at);
            else if (how == 1) s.insert(at, (char) random.nextInt(128));
            else if (how == 2) s.insert(at, random.nextInt(30));
            else if (how == 3) s.insert(at, ' ');
            else s.append(goodText());
        }
        return s.toString();
    }

    private void fillSheet() {
        int k = random.nextInt(4), lane = random.nextInt(3), n = near(0, 40);
        check("sheet(" + k + ", " + lane + ", " + n + ")", real.sheet(k, lane, n), model.sheet(k, lane, n));
        for (int i = 0; i < Math.min(n, 12) && goesOn(); i++) {
            int v = i % 2 == 0 ? person() : near(0, lane == 0 ? 127 : 999);
            check("lay(" + k + ", " + i + ", " + v + ")", real.lay(k, i, v), model.lay(k, i, v));
        }
        for (int j = 0; j < 2; j++) {
            int f = near(0, 4), m = near(0, 6), as = random.nextInt(6) == 0 ? near(0, 2) : lane;
            check("read(" + k + ", " + as + ", " + f + ", " + m + ")", real.read(k, as, f, m), model.read(k, as, f, m));
            check("torn()", real.torn(), model.torn());
        }
    }

    private void call(int which) {
        if (which < 14) change(which);
        else if (which < 27) question(which);
        else other(which);
        look();
    }

    private void look() {
        int p = person(), what = near(0, 6), w = near(0, 4), i = near(0, 3), g = near(0, 3), c = near(0, 4);
        check("rule(" + what + ")", real.rule(what), model.rule(what));
        check("one(" + p + ", " + w + ")", real.one(p, w), model.one(p, w));
        if (random.nextInt(3) == 0) check("gift(" + i + ", " + g + ")", real.gift(i, g), model.gift(i, g));
        if (random.nextInt(3) == 0) check("count(" + c + ")", real.count(c), model.count(c));
    }

    private void change(int which) {
        int p = person(), r = person();
        switch (which) {
            case 0, 1, 2 -> {
                int what = near(0, 2), v = near(0, new int[] {3, random.nextInt(4) == 0 ? 999 : 20, 20}[Math.floorMod(what, 3)]);
                check("alter(" + p + ", " + what + ", " + v + ")", real.alter(p, what, v), model.alter(p, what, v));
            }
            case 3 -> { int v = near(0, 9); check("slump(" + v + ")", real.slump(v), model.slump(v)); }
            case 4 -> check("hand(" + p + ")", real.hand(p), model.hand(p));
            case 5, 6 -> {
                int q = near(0, 20), n = near(1, 20);
                if (random.nextBoolean()) q = Math.min(20, model.c.quarter() + random.nextInt(3));
                check("give(" + q + ", " + p + ", " + r + ", " + n + ")", real.give(q, p, r, n), model.give(q, p, r, n));
            }
            case 7 -> { int n = near(0, 4); check("drop(" + n + ")", real.drop(n), model.drop(n)); }
            case 8, 9 -> {
                int n = random.nextInt(4) == 0 ? near(0, 30) : near(0, 3);
                check("quarters(" + n + ")", real.quarters(n), model.quarters(n));
            }
            case 10 -> { int k = near(0, 1); check("keep(" + k + ")", real.keep(k), model.keep(k)); }
            case 11 -> { int k = near(0, 1); check("back(" + k + ")", real.back(k), model.back(k)); }
            case 12 -> { int n = near(0, 6); check("forget(" + n + ")", real.forget(n), model.forget(n)); }
            default -> { int n = near(0, 160); check("end(" + n + ")", real.end(n), model.end(n)); }
        }
    }

    private void question(int which) {
        int p = person(), n = near(0, 60), w = near(0, 1);
        String pnw = "(" + p + ", " + n + ", " + w + ")", nw = "(" + n + ", " + w + ")";
        switch (which) {
            case 14, 15 -> { int x = near(0, 4); check("runs(" + n + ", " + x + ")", real.runs(n, x), model.runs(n, x)); }
            case 16 -> check("ahead" + pnw, real.ahead(p, n, w), model.ahead(p, n, w));
            case 17 -> check("soonest(" + p + ")", real.soonest(p), model.soonest(p));
            case 18 -> check("share" + pnw, real.share(p, n, w), model.share(p, n, w));
            case 19 -> check("round()", real.round(), model.round());
            case 20 -> check("trade(" + p + ", " + w + ")", real.trade(p, w), model.trade(p, w));
            case 21 -> check("keeper" + nw, real.keeper(n, w), model.keeper(n, w));
            case 22 -> check("kind" + pnw, real.kind(p, n, w), model.kind(p, n, w));
            case 23 -> check("alms(" + p + ", " + n + ")", real.alms(p, n), model.alms(p, n));
            case 24 -> { int m = near(0, 20); check("help(" + m + ", " + w + ")", real.help(m, w), model.help(m, w)); }
            default -> check("swap" + nw, real.swap(n, w), model.swap(n, w));
        }
    }

    private void other(int which) {
        int p = person(), w = near(0, 1);
        switch (which) {
            case 27, 28 -> odds(p, w);
            case 29, 30, 31 -> {
                int n = near(0, 20), q = random.nextInt(3) == 0 || !Model.in(n, 0, 20) ? p : model.c.after(n).where();
                check("see(" + n + ", " + q + ")", real.see(n, q), model.see(n, q));
            }
            case 32 -> check("kinds(" + p + ")", real.kinds(p), model.kinds(p));
            case 33 -> check("trades(" + p + ")", real.trades(p), model.trades(p));
            case 34, 35 -> check("ask(" + p + ", " + w + ")", real.ask(p, w), model.ask(p, w));
            case 36 -> {
                int s = random.nextInt(), n = near(1, 60);
                check("drift(" + s + ", " + n + ", " + w + ")", real.drift(s, n, w), model.drift(s, n, w));
            }
            case 37 -> {
                int k = near(0, 3), l = near(0, 2), n = random.nextInt(5) == 0 ? -random.nextInt(9) : near(0, 40);
                check("sheet(" + k + ", " + l + ", " + n + ")", real.sheet(k, l, n), model.sheet(k, l, n));
            }
            case 38 -> {
                int k = near(0, 3), i = near(0, 39), v = random.nextInt();
                check("lay(" + k + ", " + i + ", " + v + ")", real.lay(k, i, v), model.lay(k, i, v));
            }
            default -> {
                int k = near(0, 3), l = near(0, 2), f = near(0, 39), n = near(0, 20);
                check("read(" + k + ", " + l + ", " + f + ", " + n + ")", real.read(k, l, f, n), model.read(k, l, f, n));
                check("torn()", real.torn(), model.torn());
            }
        }
    }

    private void odds(int p, int w) {
        int v = near(0, 10), n = near(0, random.nextInt(4) == 0 ? 8 : 4);
        String args = "(" + v + ", " + p + ", " + n + ", " + w + ")";
        check("luck" + args, real.luck(v, p, n, w), model.luck(v, p, n, w));
        check("mean" + args, real.mean(v, p, n, w), model.mean(v, p, n, w));
    }
}
