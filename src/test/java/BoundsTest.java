import java.util.List;

/**
 * Each number that a call takes, in objects that are empty, full, and at their last quarter: its bounds are taken,
 * the numbers next to them and the farthest ints are BAD and change nothing, whatever else might be refused.
 */
public final class BoundsTest {
    private static final int BAD = -1, FAR_BELOW = Integer.MIN_VALUE, FAR_ABOVE = Integer.MAX_VALUE;
    private static final String FIVE = """
        told "plain 1 1;miser 2 2;founder 3 3;lucky 4 4;plain 5 5;coin 4;slump 9;gift 20 0 4 20;gift 0 4 0 1;gift 1 1 2 3;gift 1 1 2 3;"
        see(0, 4)
        see(20, 0)
        see(1, 4)
        see(2, 4)
        see(3, 4)
        see(4, 4)
        keep(0)
        keep(1)
        sheet(0, 0, 40)
        lay(0, 1, 7)
        sheet(1, 1, 0)
        sheet(2, 2, 3)
        read(2, 2, 2, 1)
        """;
    private static final String LATE = """
        told "plain 5 5;plain 6 6;plain 0 3;gift 0 0 1 1;"
        33 x quarters(30)
        keep(1)
        keep(0)
        quarters(9)
        see(3, 1)
        sheet(3, 2, 2)
        """;
    private static final String TAPE = """
        told "plain 5 5;plain 6 6;"
        160 x feed(32)
        """;

    /** A number that a call takes: the edges at which it is taken, and those at which it is BAD. */
    private record Bound(int[] taken, int[] bad) { }

    private static final Bound ANY = new Bound(new int[] {0, FAR_BELOW, -1, 1, FAR_ABOVE}, new int[0]);
    private static final Bound PART = to(1);

    private static Bound to(int high) { return from(0, high); }

    private static Bound from(int low, int high) {
        if (low > high) return new Bound(new int[0], new int[] {0, FAR_BELOW, -1, 1, FAR_ABOVE});
        return new Bound(new int[] {low, high}, new int[] {FAR_BELOW, low - 1, high + 1, FAR_ABOVE});
    }

    /** A number that stays as it is while others are tried. */
    private static Bound just(int v) { return new Bound(new int[] {v}, new int[0]); }

    private final String scene;
    private final List<Script.Row> ahead;
    private int wrong;
    private int tried;

    private BoundsTest(String scene, String script) {
        this.scene = scene;
        this.ahead = Script.rows(script);
    }

    public static void main(String[] args) {
        int wrong = 0, tried = 0;
        BoundsTest[] scenes = {
            new BoundsTest("nobody", "").all(0, 0, 0, 0),
            new BoundsTest("five", FIVE).all(5, 4, 6, 0),
            new BoundsTest("quarter 999", LATE).all(3, 1, 1, 0),
            new BoundsTest("full tape", TAPE).all(2, 0, 0, 160),
        };
        for (BoundsTest t : scenes) {
            wrong += t.wrong;
            tried += t.tried;
        }
        System.out.println("BoundsTest: " + (wrong == 0 ? tried + " calls at their bounds are as due" : wrong + " wrong"));
        if (wrong != 0) System.exit(1);
    }

    private BoundsTest all(int people, int gifts, int seen, int bytes) {
        Bound ones = to(people - 1), far = to(60), near = to(20);
        text(ones, gifts, bytes);
        changes(ones, people, gifts);
        call("quarters", to(30));
        call("runs", far, to(4));
        call("ahead", ones, far, PART);
        call("soonest", ones);
        call("share", ones, from(1, 60), PART);
        call("trade", ones, PART);
        call("keeper", far, PART);
        call("kind", ones, far, PART);
        call("alms", ones, far);
        call("help", near, PART);
        call("swap", far, PART);
        call("luck", to(10), ones, to(8), PART);
        call("mean", to(10), ones, to(8), PART);
        call("see", near, ones);
        call("forget", to(seen));
        call("kinds", ones);
        call("trades", ones);
        call("ask", ones, PART);
        call("drift", ANY, from(1, 60), PART);
        call("keep", PART);
        call("back", PART);
        sheets();
        call("count", to(4));
        return this;
    }

    private void text(Bound ones, int gifts, int bytes) {
        call("feed", to(127));
        call("end", to(bytes));
        call("rule", to(6));
        call("one", ones, to(4));
        call("gift", to(gifts - 1), to(3));
    }

    private void changes(Bound ones, int people, int gifts) {
        call("alter", ones, to(2), just(0));
        call("alter", ones, just(0), to(3));
        call("alter", ones, just(1), to(999));
        call("alter", ones, just(2), to(20));
        call("slump", to(9));
        call("hand", ones);
        call("give", to(20), just(0), from(1, people - 1), from(1, 20));
        call("give", to(20), to(people - 2), just(people - 1), from(1, 20));
        for (int p = 0; p < people; p++) bad("give", new int[] {0, p, p, 1});
        call("drop", to(gifts));
    }

    private void sheets() {
        // Below 0 a sheet's length is no BAD, so its bound has one side.
        call("sheet", to(3), to(2), new Bound(new int[] {0, 40, -1, FAR_BELOW}, new int[] {41, FAR_ABOVE}));
        call("lay", to(3), ANY, ANY);
        call("read", to(3), to(2), ANY, to(20));
    }

    /** Every way in which the edges that are taken come together, and each wrong number among them. */
    private void call(String name, Bound... bounds) {
        goOn(name, bounds, new int[bounds.length], 0, false);
    }

    private void goOn(String name, Bound[] bounds, int[] args, int i, boolean isBad) {
        if (i == bounds.length) {
            if (isBad) bad(name, args);
            else taken(name, args);
            return;
        }
        for (int v : bounds[i].taken) {
            args[i] = v;
            goOn(name, bounds, args, i + 1, isBad);
        }
        for (int v : bounds[i].bad) {
            args[i] = v;
            goOn(name, bounds, args, i + 1, true);
        }
    }

    private void taken(String name, int[] args) {
        Script.Row row = new Script.Row(name, args.clone(), ' ', 0);
        tried++;
        if (Script.answer(ahead, row) == BAD) tell(row + " answered BAD");
    }

    private void bad(String name, int[] args) {
        Script.Row row = new Script.Row(name, args.clone(), '!', BAD);
        tried++;
        long answer = Script.answer(ahead, row);
        if (answer != BAD) tell(row + " answered " + answer + ", due is BAD");
        String changed = Script.change(ahead, row);
        if (changed != null) tell(row + " changed " + changed);
    }

    private void tell(String what) {
        wrong++;
        System.out.println(scene + ": " + what);
    }
}
