import java.lang.reflect.Constructor;
import java.lang.reflect.Method;
import java.lang.reflect.Modifier;

/** Each promise of the document with ordinary inputs, the edges that it names, and wrong inputs. */
public final class PromiseTest {
    private static final int BAD = -1, STATE = -2, FULL = -3, NONE = -4;
    /** Two plain ones whose trades bring nothing: behind 0, 1, 2 .. quarters the coin is with 0 0 1 1 0 1 0. */
    private static final String PAIR = "plain 0 10;plain 0 10;";
    private static int wrong;
    private static int promise;
    private static final boolean[] covered = new boolean[41];

    private static void due(String call, long got, long want) {
        covered[promise] = true;
        if (got != want) {
            wrong++;
            System.out.println("promise " + promise + ": " + call + " answered " + got + ", due is " + want);
        }
    }

    private static int feedAll(LastPenny x, String text) {
        for (int i = 0; i < text.length(); i++) x.feed(text.charAt(i));
        return x.text();
    }

    private static LastPenny told(String text) {
        LastPenny x = new LastPenny();
        int lines = feedAll(x, text);
        if (lines < 0) throw new IllegalStateException(text + " is refused: " + lines);
        return x;
    }

    private static void refused(String text, int place, int fault) {
        LastPenny x = told("plain 7 7;");
        due("text of " + text, feedAll(x, text), -10 - place);
        promise = 5;
        due("fault of " + text, x.fault(), fault);
        promise = 4;
        due("means behind " + text, x.one(0, 1), 7);
        due("tape behind " + text, x.count(2), 0);
    }

    public static void main(String[] args) {
        face();
        newObject();
        tape();
        texts();
        faults();
        looks();
        changes();
        aQuarter();
        quartersGo();
        runsAhead();
        whereItIs();
        best();
        ruin();
        odds();
        seen();
        asks();
        drifts();
        images();
        sheets();
        reads();
        counts();
        for (int i = 1; i <= 40; i++) {
            if (!covered[i]) {
                wrong++;
                System.out.println("promise " + i + " has no test");
            }
        }
        System.out.println("PromiseTest: " + (wrong == 0 ? "all promises hold" : wrong + " answers are not as due"));
        if (wrong != 0) System.exit(1);
    }

    private static void face() {
        promise = 0;
        int methods = 0;
        for (Method m : LastPenny.class.getDeclaredMethods()) {
            if (!Modifier.isPrivate(m.getModifiers()) && !m.isSynthetic()) methods++;
        }
        due("visible methods", methods, 39);
        int constructors = 0;
        for (Constructor<?> c : LastPenny.class.getDeclaredConstructors()) constructors += c.getParameterCount() == 0 ? 1 : 2;
        due("constructors", constructors, 1);
        long fields = java.util.Arrays.stream(LastPenny.class.getDeclaredFields())
            .filter(f -> !Modifier.isPrivate(f.getModifiers()) && !f.isSynthetic()).count();
        due("visible fields", fields, 4);
        due("BAD", LastPenny.BAD, BAD);
        due("STATE", LastPenny.STATE, STATE);
        due("FULL", LastPenny.FULL, FULL);
        due("NONE", LastPenny.NONE, NONE);
    }

    private static void newObject() {
        promise = 1;
        LastPenny x = new LastPenny();
        for (int what : new int[] {0, 1, 2, 4, 5, 6}) due("rule " + what, x.rule(what), 0);
        due("rule 3", x.rule(3), NONE);
        due("fault", x.fault(), 0);
        due("torn", x.torn(), 0);
        for (int what : new int[] {0, 1, 2, 4}) due("count " + what, x.count(what), 0);
        for (int k = 0; k < 4; k++) due("lay on sheet " + k, x.lay(k, 0, 1), -11);
        due("one", x.one(0, 0), BAD);
    }

    private static void tape() {
        promise = 2;
        LastPenny x = new LastPenny();
        due("feed(-1)", x.feed(-1), BAD);
        due("feed(128)", x.feed(128), BAD);
        due("feed(0)", x.feed(0), 1);
        due("feed(127)", x.feed(127), 2);
        for (int i = 3; i <= 160; i++) due("feed " + i, x.feed(' '), i);
        due("feed to a full tape", x.feed(' '), FULL);
        due("a wrong byte to a full tape", x.feed(300), BAD);
        promise = 3;
        due("end(-1)", x.end(-1), BAD);
        due("end(161)", x.end(161), BAD);
        due("end(160)", x.end(160), 160);
        due("end(159)", x.end(159), 160);
        due("end(160) of 159", x.end(160), BAD);
        due("feed behind end", x.feed(' '), 160);
        due("end(0)", x.end(0), 160);
        due("tape behind end(0)", x.count(2), 0);
        LastPenny y = new LastPenny();
        for (char c : "slump 4;;".toCharArray()) y.feed(c);
        y.end(8);
        due("text of what is left", y.text(), 1);
        due("slump of it", y.rule(2), 4);
    }

    private static void texts() {
        promise = 4;
        LastPenny x = new LastPenny();
        due("an empty text", x.text(), 0);
        due("blanks", feedAll(x, "   "), 0);
        due("tokens without blanks", feedAll(x, "plain3 9;slump1;"), 2);
        due("means", x.one(0, 1), 3);
        due("many blanks", feedAll(x, "  lucky  99   20  ;  coin 00 ;  "), 2);
        due("kind", x.one(0, 0), 3);
        due("trade", x.one(0, 2), 20);
        due("slump is not told", x.rule(2), 0);
        due("slump 0", feedAll(x, "slump 0;"), 1);
        String full = "plain 1 1;miser 2 2;founder 3 3;lucky 4 4;plain 5 5;coin 4;slump 9;";
        due("five ones", feedAll(x, full + "gift 20 0 4 20;gift 0 4 0 1;gift 1 1 2 3;gift 1 1 2 3;"), 11);
        due("people", x.rule(0), 5);
        due("gifts", x.rule(6), 4);
        due("coin", x.rule(3), 4);
        for (int p = 0; p < 5; p++) due("kind of " + p, x.one(p, 0), p % 4);
        due("gift ahead of ones", feedAll(x, "gift 3 0 1 2;coin 1;plain 1 1;plain 1 1;"), 4);
        x.quarters(5);
        x.see(1, 0);
        x.keep(0);
        x.sheet(0, 0, 3);
        due("a refused text", feedAll(x, "plain 1;"), -17);
        due("quarter stays", x.rule(1), 5);
        due("seen stays", x.count(0), 1);
        due("images stay", x.count(1), 1);
        due("a text that is taken", feedAll(x, "plain 1 1;"), 1);
        due("quarter is anew", x.rule(1), 0);
        due("gifts are gone", x.rule(6), 0);
        due("coin is with 0", x.rule(3), 0);
        due("kept is anew", x.count(4), 0);
        due("nothing is seen", x.count(0), 0);
        due("images are gone", x.count(1), 0);
        due("sheets stay", x.count(3), 3);
        due("back is refused", x.back(0), STATE);
        due("an empty text tells nobody", x.text() + x.rule(0), 0);
        due("nobody has it", x.rule(3), NONE);
    }

    private static void faults() {
        promise = 4;
        refused("Plain 1 1;", 0, 1);
        refused("plain 1 1,", 9, 1);
        refused("plain 100 1;", 6, 1);
        refused("plain 1 1 123", 10, 1);
        refused("  \t", 2, 1);
        refused("slump 12 ,", 6, 3);
        refused("plainx 1 1;", 0, 2);
        refused("plai 1 1;", 0, 2);
        refused("plain 1 1; ;", 11, 2);
        refused("7", 0, 2);
        refused("plain ;", 6, 2);
        refused("plain 1 x", 8, 2);
        refused("plain 1 1", 9, 2);
        refused("plain 1 1  ", 11, 2);
        refused("plain", 5, 2);
        refused("slump 1 1;", 8, 2);
        refused("plain 1 21;", 8, 3);
        refused("slump 10;", 6, 3);
        refused("coin 5;", 5, 3);
        refused("gift 21 0 1 1;", 5, 3);
        refused("gift 0 5 1 1;", 7, 3);
        refused("gift 0 1 5 1;", 9, 3);
        refused("gift 0 1 1 0;", 9, 3);
        refused("gift 0 0 1 0;", 11, 3);
        refused("gift 0 0 1 21;", 11, 3);
        refused("slump 1; slump ,", 9, 4);
        refused("coin 1;coin x", 7, 4);
        refused("plain 1 1;plain 1 1;plain 1 1;plain 1 1;plain 1 1;lucky ,", 50, 5);
        refused("gift 0 0 1 1;gift 0 0 1 1;gift 0 0 1 1;gift 0 0 1 1;gift ,", 52, 5);
        refused("coin 0; ", 8, 6);
        refused("plain 1 1;coin 1;", 17, 6);
        refused("plain 1 1;gift 0 0 1 1;", 23, 6);
        refused("plain 1 1;gift 0 1 0 1;", 23, 6);
        promise = 5;
        LastPenny x = new LastPenny();
        feedAll(x, "plain");
        due("fault", x.fault(), 2);
        x.text();
        due("fault of a text that is taken", x.fault(), 0);
    }

    private static void looks() {
        LastPenny x = told("plain 3 9;miser 0 10;founder 30 12;lucky 8 8;gift 1 2 0 4;slump 1;coin 2;");
        promise = 6;
        int[] rules = {4, 0, 1, 2, 41, 2, 1};
        for (int what = 0; what < 7; what++) due("rule " + what, x.rule(what), rules[what]);
        due("rule(7)", x.rule(7), BAD);
        due("rule(-1)", x.rule(-1), BAD);
        promise = 7;
        int[][] ones = {{0, 3, 9, 0, -2}, {1, 0, 10, 0, 0}, {2, 30, 12, 0, 16}, {3, 8, 8, 0, -3}};
        for (int p = 0; p < 4; p++) for (int w = 0; w < 5; w++) due("one " + p + " " + w, x.one(p, w), ones[p][w]);
        due("one(4, 0)", x.one(4, 0), BAD);
        due("one(-1, 0)", x.one(-1, 0), BAD);
        due("one(0, 5)", x.one(0, 5), BAD);
        due("one(0, -1)", x.one(0, -1), BAD);
        due("a founder's loss, toward 0", told("founder 0 4;plain 0 0;coin 1;").one(0, 4), -2);
        due("a founder's coin", told("founder 0 10;").one(0, 4), 15);
        due("a miser's coin", told("miser 0 10;").one(0, 4), 1);
        due("a lucky one's coin", told("lucky 5 10;plain 5 10;plain 4 10;plain 3 10;").one(0, 4), 9);
        promise = 8;
        int[] gift = {1, 2, 0, 4};
        for (int w = 0; w < 4; w++) due("gift " + w, x.gift(0, w), gift[w]);
        due("gift(1, 0)", x.gift(1, 0), BAD);
        due("gift(-1, 0)", x.gift(-1, 0), BAD);
        due("gift(0, 4)", x.gift(0, 4), BAD);
        due("gift(0, -1)", x.gift(0, -1), BAD);
    }

    private static void changes() {
        LastPenny x = told("plain 3 9;miser 4 10;");
        promise = 9;
        due("kind", x.alter(0, 0, 3), 0);
        due("kind too great", x.alter(0, 0, 4), BAD);
        due("kind is", x.one(0, 0), 3);
        due("means", x.alter(1, 1, 999), 4);
        due("means too great", x.alter(1, 1, 1000), BAD);
        due("means below", x.alter(1, 1, -1), BAD);
        due("means are", x.alter(1, 1, 0), 999);
        due("trade", x.alter(1, 2, 20), 10);
        due("trade too great", x.alter(1, 2, 21), BAD);
        due("no such one", x.alter(2, 1, 0), BAD);
        due("kept is not altered", x.alter(0, 3, 0), BAD);
        due("what below", x.alter(0, -1, 0), BAD);
        promise = 10;
        due("slump", x.slump(9), 0);
        due("slump too great", x.slump(10), BAD);
        due("slump below", x.slump(-1), BAD);
        due("slump was", x.slump(0), 9);
        promise = 11;
        due("hand", x.hand(1), 0);
        due("hand to nobody", x.hand(2), BAD);
        due("hand below", x.hand(-1), BAD);
        due("hand again", x.hand(1), 1);
        due("nobody is there", new LastPenny().hand(0), BAD);
        gives(x);
    }

    private static void gives(LastPenny x) {
        promise = 12;
        due("quarter too great", x.give(21, 0, 1, 1), BAD);
        due("quarter below", x.give(-1, 0, 1, 1), BAD);
        due("alike", x.give(0, 1, 1, 1), BAD);
        due("who", x.give(0, 2, 1, 1), BAD);
        due("whom", x.give(0, 0, 2, 1), BAD);
        due("nothing", x.give(0, 0, 1, 0), BAD);
        due("too much", x.give(0, 0, 1, 21), BAD);
        for (int i = 1; i <= 4; i++) due("give " + i, x.give(20, 0, 1, 20), i);
        due("a fifth", x.give(0, 0, 1, 1), FULL);
        due("a wrong fifth", x.give(0, 0, 1, 0), BAD);
        promise = 13;
        due("drop(5)", x.drop(5), BAD);
        due("drop(-1)", x.drop(-1), BAD);
        due("drop(1)", x.drop(1), 4);
        due("drop(2)", x.drop(2), BAD);
        due("left", x.rule(6), 1);
        due("drop(0)", x.drop(0), 1);
        due("none left", x.gift(0, 0), BAD);
    }

    private static void aQuarter() {
        promise = 14;
        LastPenny ring = told("plain 3 10;plain 9 10;plain 10 10;plain 3 10;coin 2;");
        due("of several the first behind him", ring.quarters(1), 3);
        LastPenny over = told("plain 3 10;plain 3 10;plain 10 10;coin 2;");
        due("behind the last comes 0", over.quarters(1), 0);
        LastPenny nine = told("plain 4 10;plain 0 10;");
        due("9 is not enough", nine.quarters(1), 0);
        due("he kept it", nine.one(0, 3), 1);
        due("10 is", told("plain 5 10;plain 90 10;").quarters(1), 1);
        LastPenny rich = told("miser 50 10;plain 0 10;");
        due("a miser keeps it", rich.quarters(3), 0);
        due("three quarters", rich.one(0, 3), 3);
        LastPenny poor = told("miser 2 8;plain 50 10;");
        due("a miser with 1", poor.quarters(1), 0);
        due("a miser with 0", poor.quarters(1), 1);
        due("he kept it once", poor.one(0, 3), 1);
        LastPenny alone = told("plain 50 10;");
        alone.quarters(3);
        due("who is alone keeps it", alone.one(0, 3), 3);
        LastPenny lucky = told("lucky 5 10;plain 5 10;plain 4 10;plain 3 10;gift 0 0 1 2;");
        lucky.quarters(1);
        due("by means behind the gifts", lucky.one(0, 1), 8);
        LastPenny order = told("plain 0 10;plain 5 10;plain 0 10;gift 0 1 0 5;gift 0 0 2 3;");
        order.quarters(1);
        due("gifts by order: 0", order.one(0, 1), 7);
        due("gifts by order: 2", order.one(2, 1), 3);
        LastPenny all = told("plain 0 10;plain 5 10;gift 0 1 0 20;gift 2 0 1 1;");
        all.quarters(1);
        due("he gives all", all.one(1, 1), 0);
        due("no more than all", all.one(0, 1), 10);
        LastPenny top = told("miser 0 9;plain 50 10;gift 0 1 0 20;");
        top.alter(0, 1, 990);
        top.quarters(1);
        due("999 at most by gifts", top.one(0, 1), 999);
        due("what is over is gone", top.one(1, 1), 30);
        top.alter(0, 2, 20);
        top.quarters(1);
        due("999 at most by trade", top.one(0, 1), 999);
        LastPenny sum = told("plain 7 0;");
        sum.quarters(2);
        due("trade and coin together, 0 at least", sum.one(0, 1), 0);
        due("slump", told("plain 20 10;slump 9;").ahead(0, 1, 0), 16);
    }

    private static void quartersGo() {
        promise = 14;
        LastPenny x = told(PAIR);
        due("none go", x.quarters(0), 0);
        due("31", x.quarters(31), BAD);
        due("below", x.quarters(-1), BAD);
        due("two", x.quarters(2), 1);
        due("quarter", x.rule(1), 2);
        due("two more", x.quarters(2), 0);
        due("kept by 0", x.one(0, 3), 1);
        due("kept by 1", x.one(1, 3), 1);
        x.quarters(26);
        for (int i = 0; i < 32; i++) x.quarters(30);
        due("quarter 990", x.rule(1), 990);
        due("to 1000", x.quarters(10), FULL);
        due("nothing went", x.rule(1), 990);
        due("to 999", x.quarters(9) >= 0 ? 1 : 0, 1);
        due("one more", x.quarters(1), FULL);
        due("none more", x.quarters(0), x.rule(3));
        due("31 at 999", x.quarters(31), BAD);
        LastPenny nobody = new LastPenny();
        due("nobody is there", nobody.quarters(3), NONE);
        due("quarters go all the same", nobody.rule(1), 3);
    }

    private static void runsAhead() {
        promise = 15;
        LastPenny x = told(PAIR);
        int[] where = {0, 0, 1, 1, 0, 1, 0};
        for (int n = 0; n < where.length; n++) {
            due("where behind " + n, x.runs(n, 4), where[n]);
            due("means behind " + n, x.runs(n, 0), 5 * n);
        }
        due("ruined now", x.runs(0, 1), 3);
        due("ruined behind 2", x.runs(2, 1), 2);
        due("handed on in 4", x.runs(4, 2), 2);
        due("handed on in 6", x.runs(6, 2), 4);
        due("first ruin is from 1 on", x.runs(4, 3), 1);
        due("first ruin in none", x.runs(0, 3), NONE);
        due("no ruin", told("plain 9 10;").runs(60, 3), NONE);
        due("far ruin", told("plain 12 4;").runs(60, 3), 12);
        due("not so far", told("plain 12 4;").runs(11, 3), NONE);
        due("nobody's means", new LastPenny().runs(3, 0), 0);
        due("nobody", new LastPenny().runs(3, 4), NONE);
        due("61", x.runs(61, 0), BAD);
        due("below", x.runs(-1, 0), BAD);
        due("what", x.runs(1, 5), BAD);
        due("what below", x.runs(1, -1), BAD);
        due("nothing went", x.rule(1), 0);
        LastPenny late = told("plain 12 4;gift 0 0 1 1;plain 5 5;");
        late.quarters(1);
        due("gifts by quarters from now on", late.ahead(1, 1, 0), 1);
        promise = 16;
        due("means behind 2", x.ahead(0, 2, 0), 10);
        due("ruined behind 1 and 2", x.ahead(1, 9, 1), 2);
        due("ruined in none", x.ahead(1, 0, 1), 0);
        due("means now", x.ahead(1, 0, 0), 0);
        due("no such one", x.ahead(2, 1, 0), BAD);
        due("61", x.ahead(0, 61, 0), BAD);
        due("below", x.ahead(0, -1, 0), BAD);
        due("what", x.ahead(0, 1, 2), BAD);
    }

    private static void whereItIs() {
        LastPenny x = told(PAIR);
        LastPenny rich = told("miser 50 10;plain 0 10;");
        promise = 17;
        due("now", x.soonest(0), 0);
        due("behind 2", x.soonest(1), 2);
        due("never", rich.soonest(1), NONE);
        due("no such one", x.soonest(2), BAD);
        due("below", x.soonest(-1), BAD);
        due("behind 60", told("miser 60 8;plain 0 10;").soonest(1), 60);
        due("behind 61", told("miser 61 8;plain 0 10;").soonest(1), NONE);
        promise = 18;
        due("share of 0 in 4", x.share(0, 4, 0), 1);
        due("out of", x.share(0, 4, 1), 2);
        due("share of 1 in 1", x.share(1, 1, 0), 0);
        due("0 is 0 by 1", x.share(1, 1, 1), 1);
        due("0 is 0 by 1, of 60", rich.share(1, 60, 1), 1);
        due("all", rich.share(0, 60, 0), 1);
        due("none", x.share(0, 0, 0), BAD);
        due("61", x.share(0, 61, 0), BAD);
        due("no such one", x.share(2, 1, 0), BAD);
        due("what", x.share(0, 1, 2), BAD);
        promise = 19;
        due("round", x.round(), 2);
        due("alone", told("plain 5 5;").round(), 1);
        due("never round", rich.round(), NONE);
        due("nobody", new LastPenny().round(), NONE);
        LastPenny three = told("plain 10 10;plain 9 10;plain 9 10;");
        due("round three", three.round(), 2);
    }

    private static void best() {
        promise = 20;
        LastPenny x = told("plain 5 10;plain 3 10;plain 4 10;");
        due("trade", x.trade(2, 0), 0);
        due("behind", x.trade(2, 1), 1);
        due("who has it", x.trade(0, 1), 0);
        due("as it is it comes later", x.soonest(2) > 1 ? 1 : 0, 1);
        due("by none", told("miser 9 20;plain 0 10;").trade(1, 0), NONE);
        due("by none, behind", told("miser 9 20;plain 0 10;").trade(1, 1), NONE);
        due("no such one", x.trade(3, 0), BAD);
        due("what", x.trade(0, 2), BAD);
        due("trade stays", x.one(2, 2), 10);
        due("behind 60", told("miser 60 8;plain 0 10;").trade(1, 1), 60);
        due("behind 61", told("miser 61 8;plain 0 10;").trade(1, 1), NONE);
        promise = 21;
        LastPenny k = told("plain 0 10;founder 0 10;miser 0 10;");
        due("keeper", k.keeper(1, 0), 1);
        due("means", k.keeper(1, 1), 16);
        due("of several the first", k.keeper(0, 0), 0);
        due("means now", k.keeper(0, 1), 0);
        due("nobody", new LastPenny().keeper(1, 0), NONE);
        due("nobody's means", new LastPenny().keeper(1, 1), NONE);
        due("61", new LastPenny().keeper(61, 0), BAD);
        due("below", k.keeper(-1, 0), BAD);
        due("what", k.keeper(1, 2), BAD);
        due("coin stays", k.rule(3), 0);
        promise = 22;
        LastPenny y = told(PAIR);
        due("kind of who has it", y.kind(0, 1, 0), 2);
        due("means", y.kind(0, 1, 1), 15);
        due("kind of the other", y.kind(1, 1, 0), 1);
        due("means of the other", y.kind(1, 1, 1), 1);
        due("of several the first", y.kind(1, 0, 0), 0);
        due("no such one", y.kind(2, 1, 0), BAD);
        due("61", y.kind(0, 61, 0), BAD);
        due("what", y.kind(0, 1, -1), BAD);
        due("kind stays", y.one(0, 0), 0);
        LastPenny above = told("plain 50 20;plain 1 10;plain 1 10;plain 1 10;plain 1 10;");
        due("lucky is best", above.kind(0, 1, 0), 3);
        due("means of a lucky one", above.kind(0, 1, 1), 73);
    }

    private static void ruin() {
        promise = 23;
        due("alms", told("plain 22 0;").alms(0, 9), 24);
        due("none needed", told("plain 46 0;").alms(0, 9), 0);
        due("one needed", told("plain 45 0;").alms(0, 9), 1);
        due("ruined now, no quarters", told("plain 0 0;").alms(0, 0), 0);
        due("99 are enough", told("plain 2 0;").alms(0, 20), 99);
        due("99 are not", told("plain 1 0;").alms(0, 20), NONE);
        due("no such one", told("plain 1 0;").alms(1, 1), BAD);
        due("61", told("plain 1 0;").alms(0, 61), BAD);
        due("below", told("plain 1 0;").alms(0, -1), BAD);
        promise = 24;
        LastPenny h = told("plain 30 10;plain 0 10;plain 0 10;");
        due("help", h.help(1, 0), 101);
        due("ruined by it", h.help(1, 1), 1);
        due("no quarters", h.help(0, 0), NONE);
        due("21", h.help(21, 0), BAD);
        due("below", h.help(-1, 0), BAD);
        due("what", h.help(1, 2), BAD);
        due("no gift came", h.rule(6), 0);
        h.give(0, 0, 1, 1);
        due("behind the others", h.help(1, 0), 201);
        due("nobody is ruined then", h.help(1, 1), 0);
        for (int i = 0; i < 3; i++) h.give(9, 0, 1, 1);
        due("full", h.help(1, 0), FULL);
        due("wrong and full", h.help(21, 0), BAD);
        due("nobody is ruined", told("plain 9 10;plain 9 10;").help(5, 1), NONE);
        due("nobody is there", new LastPenny().help(5, 0), NONE);
        LastPenny later = told("plain 30 10;miser 0 9;coin 1;");
        later.quarters(2);
        due("in this quarter", later.help(1, 0), 101);
        due("who gives is 1", told("plain 0 10;miser 50 10;coin 1;").help(1, 0), 1001);
        LastPenny much = told("plain 1 0;miser 90 10;coin 1;");
        due("20 are needed", much.help(2, 0), 1020);
        due("nobody is ruined by it", much.help(2, 1), 0);
        LastPenny five = told("miser 9 9;miser 9 9;miser 9 9;miser 50 10;miser 0 9;");
        due("by 0 to 4 of five", five.help(3, 0), 401);
        swaps();
    }

    private static void swaps() {
        promise = 25;
        LastPenny s = told("plain 5 0;plain 50 12;plain 0 10;coin 1;");
        due("swap", s.swap(1, 0), 1);
        due("ruined by it", s.swap(1, 1), 1);
        due("trades stay", s.one(0, 2), 0);
        LastPenny other = told("plain 50 10;plain 50 12;plain 0 10;");
        due("the other two", other.swap(1, 0), 12);
        due("nobody is ruined then", other.swap(1, 1), 0);
        due("of five", told("miser 9 9;miser 9 9;miser 9 9;miser 50 10;miser 0 9;").swap(1, 0), 34);
        due("no quarters", s.swap(0, 0), NONE);
        due("61", s.swap(61, 0), BAD);
        due("below", s.swap(-1, 0), BAD);
        due("what", s.swap(1, 2), BAD);
        due("not fewer", told("plain 9 10;plain 9 10;").swap(1, 0), NONE);
        due("not fewer, ruined", told("plain 9 10;plain 9 10;").swap(1, 1), NONE);
        due("nobody", new LastPenny().swap(1, 0), NONE);
    }

    private static void odds() {
        LastPenny x = told("plain 5 10;plain 0 10;");
        promise = 26;
        due("half", x.luck(5, 1, 1, 0), 1);
        due("by", x.luck(5, 1, 1, 1), 2);
        due("three tenths", x.luck(7, 1, 1, 0), 3);
        due("out of ten", x.luck(7, 1, 1, 1), 10);
        due("surely", x.luck(0, 1, 1, 0), 1);
        due("never", x.luck(10, 1, 1, 0), 0);
        due("0 by 1", x.luck(10, 1, 1, 1), 1);
        due("no quarters", x.luck(5, 0, 0, 0), 1);
        due("v", x.luck(11, 0, 1, 0), BAD);
        due("v below", x.luck(-1, 0, 1, 0), BAD);
        due("no such one", x.luck(5, 2, 1, 0), BAD);
        due("9", x.luck(5, 0, 9, 0), BAD);
        due("below", x.luck(5, 0, -1, 0), BAD);
        due("what", x.luck(5, 0, 1, 2), BAD);
        promise = 27;
        due("mean", x.mean(5, 0, 1, 0), 11);
        due("by", x.mean(5, 0, 1, 1), 2);
        due("0", x.mean(5, 1, 1, 0), 0);
        due("0 by 1", x.mean(5, 1, 1, 1), 1);
        due("now", x.mean(3, 0, 0, 0), 5);
        LastPenny alone = told("plain 90 10;slump 1;");
        // 4 a quarter as it is, 4 less by a slump: 90 + 8 * (4 - 8 * 3 / 10) = 514 / 5.
        due("by the slump that is", alone.mean(3, 0, 8, 0), 514);
        due("in lowest terms", alone.mean(3, 0, 8, 1), 5);
        due("slump stays", alone.rule(2), 1);
        due("v", x.mean(11, 0, 1, 0), BAD);
        due("no such one", x.mean(5, -1, 1, 0), BAD);
        due("9", x.mean(5, 0, 9, 0), BAD);
        due("what", x.mean(5, 0, 1, -1), BAD);
    }

    private static void seen() {
        LastPenny x = told("plain 5 10;plain 0 10;");
        promise = 30;
        due("kinds by nothing", x.kinds(0), 15);
        promise = 31;
        due("trades by nothing", x.trades(0), (1 << 21) - 1);
        promise = 28;
        due("n", x.see(21, 0), BAD);
        due("n below", x.see(-1, 0), BAD);
        due("no such one", x.see(0, 2), BAD);
        due("see", x.see(1, 1), 1);
        promise = 30;
        due("kinds", x.kinds(0), 13);
        due("no such one", x.kinds(2), BAD);
        due("below", x.kinds(-1), BAD);
        promise = 31;
        due("trades", x.trades(0), (1 << 21) - (1 << 10));
        due("no such one", x.trades(2), BAD);
        promise = 28;
        due("see otherwise", x.see(1, 0), 2);
        for (int i = 3; i <= 6; i++) due("see " + i, x.see(20, 0), i);
        due("a seventh", x.see(20, 0), FULL);
        due("a wrong seventh", x.see(21, 0), BAD);
        promise = 30;
        due("no kind", x.kinds(0), 0);
        promise = 31;
        due("no trade", x.trades(0), 0);
        promise = 29;
        due("7", x.forget(7), BAD);
        due("below", x.forget(-1), BAD);
        due("forget", x.forget(1), 6);
        due("the first is left", x.kinds(0), 13);
        due("2 of 1", x.forget(2), BAD);
        due("all", x.forget(0), 1);
        due("none", x.kinds(0), 15);
        promise = 28;
        x.see(1, 1);
        x.quarters(1);
        due("from now on", x.kinds(1), kindsByHand(x, 1, 1, 1));
    }

    /** The kinds of p by which the coin is with who behind n quarters, by altering and running. */
    private static int kindsByHand(LastPenny x, int p, int n, int who) {
        int bits = 0;
        int was = x.one(p, 0);
        for (int k = 0; k < 4; k++) {
            x.alter(p, 0, k);
            if (x.runs(n, 4) == who) bits |= 1 << k;
        }
        x.alter(p, 0, was);
        return bits;
    }

    private static void asks() {
        promise = 32;
        LastPenny x = told("plain 5 10;plain 7 10;lucky 3 9;");
        for (int round = 0; round < 2; round++) {
            int fits = x.trades(0);
            int best = NONE, fewest = Integer.bitCount(fits);
            for (int q = 0; q <= 20; q++) {
                int worst = worstByHand(x, fits, q);
                if (worst < fewest) {
                    best = q;
                    fewest = worst;
                }
            }
            due("ask, round " + round, x.ask(0, 0), best);
            due("left, round " + round, x.ask(0, 1), best == NONE ? NONE : fewest);
            x.see(1, x.runs(1, 4));
        }
        due("nothing to ask of who is alone", told("plain 5 5;").ask(0, 0), NONE);
        due("nothing left to ask of him", told("plain 5 5;").ask(0, 1), NONE);
        due("no such one", x.ask(3, 0), BAD);
        due("below", x.ask(-1, 0), BAD);
        due("what", x.ask(0, 2), BAD);
        LastPenny y = told("plain 5 10;plain 0 10;");
        y.see(0, 1);
        due("no trade is left", y.ask(0, 1), NONE);
    }

    private static int worstByHand(LastPenny x, int fits, int q) {
        int[] left = new int[5];
        int worst = 0;
        int was = x.one(0, 2);
        for (int t = 0; t <= 20; t++) {
            x.alter(0, 2, t);
            if ((fits >> t & 1) == 1) worst = Math.max(worst, ++left[x.runs(q, 4)]);
        }
        x.alter(0, 2, was);
        return worst;
    }

    private static void drifts() {
        promise = 33;
        LastPenny x = told("plain 20 10;slump 3;");
        due("slump 0", x.drift(0, 1, 0), 25);
        due("slump 8", x.drift(1, 1, 0), 17);
        due("slump 9 by a seed below 0", x.drift(-2, 1, 0), 16);
        due("slump stays", x.rule(2), 3);
        due("quarter stays", x.rule(1), 0);
        LastPenny y = told("plain 99 10;");
        due("a far seed", y.drift(123456789, 9, 0), 108);
        due("a far seed below 0", y.drift(-987654321, 9, 0), 106);
        due("another", y.drift(54321, 9, 0), 122);
        due("where", x.drift(1, 60, 1), 0);
        due("none", x.drift(1, 0, 0), BAD);
        due("61", x.drift(1, 61, 0), BAD);
        due("what", x.drift(1, 1, 2), BAD);
        due("nobody", new LastPenny().drift(1, 1, 0), STATE);
        due("nobody and wrong", new LastPenny().drift(1, 0, 0), BAD);
    }

    private static void images() {
        LastPenny x = told("plain 5 10;plain 0 10;gift 0 0 1 1;slump 2;");
        promise = 34;
        due("k", x.keep(2), BAD);
        due("k below", x.keep(-1), BAD);
        promise = 35;
        due("there is none", x.back(1), STATE);
        due("k", x.back(2), BAD);
        due("k below", x.back(-1), BAD);
        promise = 34;
        x.quarters(2);
        x.see(3, 1);
        due("keep", x.keep(1), 0);
        int kept = x.one(0, 3), means = x.rule(4), where = x.rule(3);
        x.quarters(5);
        x.see(4, 0);
        x.slump(9);
        x.drop(0);
        x.alter(0, 0, 2);
        x.hand(1 - where);
        due("keep the other", x.keep(0), 0);
        promise = 35;
        due("back", x.back(1), 2);
        due("kept", x.one(0, 3), kept);
        due("means", x.rule(4), means);
        due("coin", x.rule(3), where);
        due("slump", x.rule(2), 2);
        due("gifts", x.rule(6), 1);
        due("seen", x.count(0), 1);
        due("kind", x.one(0, 0), 0);
        x.quarters(1);
        due("the image stays", x.back(1), 2);
        due("the other", x.back(0), 7);
        due("its seen", x.count(0), 2);
        promise = 34;
        due("keep again", x.keep(1), 1);
        due("back to it", x.back(1), 7);
    }

    private static void sheets() {
        promise = 36;
        LastPenny x = new LastPenny();
        due("k", x.sheet(4, 0, 1), BAD);
        due("k below", x.sheet(-1, 0, -1), BAD);
        due("lane", x.sheet(0, 3, 1), BAD);
        due("lane below", x.sheet(0, -1, -1), BAD);
        due("41", x.sheet(0, 0, 41), BAD);
        due("size", x.sheet(0, 0, -1), -14);
        due("size far below", x.sheet(0, 0, Integer.MIN_VALUE), -14);
        due("still nothing", x.count(3), NONE);
        due("of none", x.sheet(0, 0, 0), 1);
        due("cells", x.count(3), 0);
        due("of 40", x.sheet(0, 2, 40), 1);
        due("cells", x.count(3), 40);
        due("a wrong one", x.sheet(0, 2, -5), -14);
        due("nothing is changed", x.count(3), 40);
        promise = 37;
        due("k", x.lay(4, 0, 0), BAD);
        due("k below", x.lay(-1, 0, 0), BAD);
        due("nothing", x.lay(1, -1, 0), -11);
        due("index", x.lay(0, 40, 0), -12);
        due("index below", x.lay(0, -1, 0), -12);
        due("the last", x.lay(0, 39, -7), 1);
        x.sheet(1, 0, 0);
        due("no cells", x.lay(1, 0, 0), -12);
        feedAll(x, "plain 1 10;plain 2 10;");
        x.sheet(0, 0, 2);
        due("lowest bits of a byte", x.lay(0, 0, 257), 1);
        x.lay(0, 1, 100 + 256);
        due("read them", x.read(0, 0, 0, 1), 1);
        due("means", x.one(1, 1), 100);
        x.sheet(2, 1, 2);
        x.lay(2, 1, 65536 + 500);
        due("read shorts", x.read(2, 1, 0, 1), 1);
        due("means by shorts", x.one(0, 1) >= 500 ? 1 : 0, 1);
        x.lay(0, 0, 0);
        x.lay(0, 1, 200);
        due("a byte has a sign", x.read(0, 0, 0, 1), -20);
        x.lay(2, 1, 40000);
        due("a short has a sign", x.read(2, 1, 0, 1), -20);
        promise = 36;
        x.sheet(2, 1, 2);
        due("cells are 0 anew", x.read(2, 1, 0, 1), 1);
        due("means 0 came", x.ahead(0, 0, 0) <= 5 ? 1 : 0, 1);
    }

    private static void reads() {
        promise = 38;
        LastPenny x = told("plain 12 10;plain 0 10;");
        x.sheet(0, 2, 7);
        int[] cells = {1, 7, 0, 30, 1, 0, 0};
        for (int i = 0; i < cells.length; i++) x.lay(0, i, cells[i]);
        due("k", x.read(4, 0, 0, 0), BAD);
        due("lane", x.read(0, 3, 0, 0), BAD);
        due("n", x.read(0, 2, 0, 21), BAD);
        due("n below", x.read(0, 2, 0, -1), BAD);
        due("none", x.read(0, 2, 0, 0), 0);
        due("quarter", x.rule(1), 0);
        due("one", x.read(0, 2, 0, 1), 1);
        due("a quarter went", x.rule(1), 1);
        due("he handed it on", x.rule(3), 1);
        due("means", x.one(1, 1), 7);
        due("two", x.read(0, 2, 2, 2), 2);
        due("two quarters went", x.rule(1), 3);
        promise = 39;
        due("whole", x.torn(), 0);
        due("the fourth is torn", x.read(0, 2, 0, 4), 3);
        due("index", x.torn(), 2);
        due("three came", x.rule(1), 6);
        due("refused", x.read(0, 2, 0, 21) + x.torn(), 1);
        due("cast", x.read(0, 1, 0, 4), 0);
        due("it is a cast", x.torn(), 3);
        due("cast ahead of index", x.read(0, 0, -1, 1) + x.torn(), 3);
        due("null", x.read(1, 1, -1, 1) + x.torn(), 1);
        due("index below", x.read(0, 2, -1, 1) + x.torn(), 2);
        due("index far away", x.read(0, 2, Integer.MAX_VALUE, 2) + x.torn(), 2);
        due("whole again", x.read(0, 2, 0, 1) + x.torn(), 1);
        refusedReads(x);
    }

    private static void refusedReads(LastPenny x) {
        promise = 38;
        x.read(0, 1, 0, 1);
        x.lay(0, 2, 2);
        int quarter = x.rule(1), means = x.rule(4), where = x.rule(3), kept = x.count(4);
        due("the second is no one", x.read(0, 2, 0, 4), -21);
        due("none came", x.rule(1), quarter);
        due("means stay", x.rule(4), means);
        due("coin stays", x.rule(3), where);
        due("kept stays", x.count(4), kept);
        promise = 39;
        due("torn stays", x.torn(), 3);
        promise = 38;
        x.lay(0, 2, 0);
        x.lay(0, 3, 1000);
        due("means are too many", x.read(0, 2, 2, 1), -20);
        x.lay(0, 3, 999);
        due("means are not", x.read(0, 2, 2, 1), 1);
        LastPenny old = told("plain 12 10;");
        old.sheet(0, 0, 40);
        for (int i = 0; i < 33; i++) old.quarters(30);
        old.quarters(7);
        due("to 999", old.read(0, 0, 0, 3), -22);
        due("none came", old.rule(1), 997);
        due("torn at 999", old.read(0, 0, 36, 3), 2);
        due("two came", old.rule(1), 999);
        due("none at 999", old.read(0, 0, 0, 0), 0);
        due("one at 999", old.read(0, 0, 0, 1), -20);
        due("machine first", old.read(0, 0, 39, 1) + old.torn(), 2);
        LastPenny nobody = new LastPenny();
        nobody.sheet(3, 1, 2);
        due("nobody is there", nobody.read(3, 1, 0, 1), -20);
    }

    private static void counts() {
        promise = 40;
        LastPenny x = told("plain 0 10;miser 0 10;");
        due("seen", x.count(0), 0);
        x.see(0, 0);
        due("one seen", x.count(0), 1);
        x.keep(1);
        due("one image", x.count(1), 1);
        x.keep(0);
        due("two images", x.count(1), 2);
        x.feed(0);
        due("bytes", x.count(2), 1);
        due("nothing", x.count(3), NONE);
        x.sheet(1, 0, 5);
        due("another sheet", x.count(3), NONE);
        x.sheet(0, 0, 5);
        due("cells", x.count(3), 5);
        x.quarters(3);
        due("kept: 0 once, 1 once", x.count(4), 2);
        due("what", x.count(5), BAD);
        due("what below", x.count(-1), BAD);
    }
}
