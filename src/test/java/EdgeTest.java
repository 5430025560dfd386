import java.io.IOException;
import java.nio.file.Files;
import java.nio.file.Path;
import java.util.HashSet;
import java.util.Set;

/**
 * Each sentence of the document that names a boundary case, with a run of its own. Script says how the rows look;
 * a row with '!' also tests that the refused call changes nothing.
 */
public final class EdgeTest {
    private static final Path DOCUMENT = Path.of("../shared/DOC.md");
    private static final int TERMS = 0, WHOLE = 41;
    private static final boolean[] covered = new boolean[42];
    private static String document;
    private static int wrong;
    private static int runs;
    private static final Set<String> sentences = new HashSet<>();

    /** The sentence must stand in the document, so that no test goes on when its words are gone. */
    private static void edge(int promise, String sentence, String script) {
        covered[promise] = true;
        runs++;
        sentences.add(promise + " " + sentence);
        if (!document.isEmpty() && !section(promise).contains(sentence)) tell(promise, sentence, "the document does not say so");
        for (String what : Script.wrongs(Script.rows(script))) tell(promise, sentence, what);
    }

    private static void tell(int promise, String sentence, String what) {
        wrong++;
        System.out.println((promise == TERMS ? "terms" : promise == WHOLE ? "the whole" : "promise " + promise) + ", '" + sentence + "': " + what);
    }

    private static String section(int promise) {
        String heading = promise == TERMS ? "## Terms" : promise == WHOLE ? "## What it is" : "## Promise " + promise + ":";
        int start = document.indexOf(heading);
        int end = document.indexOf("\n## ", start + 1);
        return start < 0 || end < 0 ? "" : document.substring(start, end);
    }

    public static void main(String[] args) throws IOException {
        document = Files.exists(DOCUMENT) ? Files.readString(DOCUMENT) : "";
        if (document.isEmpty()) System.out.println("EdgeTest: " + DOCUMENT + " is not here, its sentences are not looked up");
        lastCalls();
        order();
        fractions();
        peopleAndRing();
        brings();
        tape();
        tokens();
        lines();
        faults();
        textTaken();
        gifts();
        meansBounds();
        handingOn();
        seenAndSheets();
        looks();
        changes();
        quarters();
        whereItIs();
        bestTradeKeeperKind();
        almsHelpSwap();
        odds();
        fromWhoHadIt();
        seeds();
        images();
        sheetsAndReads();
        counts();
        for (int i = 0; i < covered.length; i++) if (!covered[i]) tell(i, "", "no sentence has a test");
        System.out.println("EdgeTest: " + (wrong == 0 ? runs + " runs at the edges of " + sentences.size() + " sentences are as due" : wrong + " wrong"));
        if (wrong != 0) System.exit(1);
    }

    private static void lastCalls() {
        edge(WHOLE, "An object is used for at most 512 calls after it has been made", """
            told "plain 0 10;plain 0 10;"
            33 x quarters(30)
            quarters(9)
            keep(0) = 0
            6 x see(0, 1)
            419 x ask(0, 0) = NONE
            text() = 0
            rule(0) = 0
            sheet(0, 2, 40) = 1
            lay(0, 39, 1) = 1
            feed "plain 0 10;plain 0 10;"
            text() = 2
            runs(60, 0) = 300
            // the 512th
            quarters(2) = 1
            """);
    }

    // ---- terms: answers

    private static void order() {
        String first = "the first that fits";
        edge(TERMS, first, """
            // BAD ahead of FULL
            160 x feed(32)
            feed(128) ! BAD
            feed(-1) ! BAD
            feed(32) ! FULL
            """);
        edge(TERMS, first, """
            // BAD ahead of FULL, and FULL ahead of NONE
            told "plain 9 10;plain 9 10;gift 0 0 1 1;gift 1 0 1 1;gift 2 0 1 1;gift 3 0 1 1;"
            give(21, 0, 1, 1) ! BAD
            give(0, 1, 1, 1) ! BAD
            give(0, 0, 2, 1) ! BAD
            give(0, 0, 1, 21) ! BAD
            give(0, 0, 1, 1) ! FULL
            help(21, 0) ! BAD
            help(1, 2) ! BAD
            help(1, 0) ! FULL
            help(0, 1) ! FULL
            drop(3) = 4
            help(1, 0) ! NONE
            """);
        edge(TERMS, first, """
            told "plain 9 10;"
            6 x see(0, 0)
            see(21, 0) ! BAD
            see(0, 1) ! BAD
            see(0, 0) ! FULL
            """);
        edge(TERMS, first, """
            // nobody is there: BAD ahead of STATE and NONE
            drift(1, 0, 0) ! BAD
            drift(1, 61, 1) ! BAD
            drift(1, 1, 2) ! BAD
            drift(1, 1, 1) ! STATE
            keeper(61, 0) ! BAD
            keeper(0, 2) ! BAD
            keeper(0, 1) ! NONE
            runs(61, 4) ! BAD
            runs(0, 4) ! NONE
            swap(61, 0) ! BAD
            swap(60, 0) ! NONE
            help(21, 0) ! BAD
            help(20, 0) ! NONE
            back(2) ! BAD
            back(1) ! STATE
            """);
        edge(TERMS, first, """
            // nobody is there at quarter 999: BAD ahead of FULL, FULL ahead of NONE
            33 x quarters(30) = NONE
            quarters(9) = NONE
            rule(1) = 999
            quarters(31) ! BAD
            quarters(1) ! FULL
            quarters(0) ! NONE
            """);
        edge(TERMS, first, """
            // by none, but asked wrongly
            told "miser 9 20;plain 1 0;"
            trade(1, 2) ! BAD
            trade(2, 0) ! BAD
            trade(1, 0) ! NONE
            soonest(2) ! BAD
            soonest(1) ! NONE
            alms(1, 61) ! BAD
            alms(1, 60) ! NONE
            ask(1, 2) ! BAD
            ask(1, 0) ! NONE
            swap(1, 2) ! BAD
            """);
        edge(TERMS, first, """
            // BAD ahead of what the machine finds
            sheet(4, 0, -1) ! BAD
            sheet(0, 3, -1) ! BAD
            sheet(0, 0, -1) ! -14
            lay(4, -1, 0) ! BAD
            lay(3, -1, 0) ! -11
            read(4, 0, -1, 1) ! BAD
            read(0, 3, -1, 1) ! BAD
            read(0, 0, -1, 21) ! BAD
            torn() = 0
            """);
    }

    private static void fractions() {
        edge(TERMS, "Fractions are in lowest terms, the denominator above 0 (0 is 0 by 1)", """
            // the coin is with 0 1 1 0 behind 1 to 4 quarters
            told "plain 0 10;plain 0 10;"
            share(1, 1, 0) = 0
            share(1, 1, 1) = 1
            share(0, 1, 0) = 1
            share(0, 1, 1) = 1
            share(0, 4, 0) = 1
            share(0, 4, 1) = 2
            share(1, 3, 0) = 2
            share(1, 3, 1) = 3
            luck(10, 1, 0, 0) = 0
            luck(10, 1, 0, 1) = 1
            mean(5, 1, 1, 0) = 0
            mean(5, 1, 1, 1) = 1
            mean(0, 0, 2, 0) = 10
            mean(0, 0, 2, 1) = 1
            """);
    }

    // ---- terms: section 1

    private static void peopleAndRing() {
        edge(TERMS, "PEOPLE 0 on (5 at most", """
            one(0, 0) ! BAD
            rule(0) = 0
            told "plain 1 1;miser 2 1;founder 3 1;lucky 4 1;plain 5 1;"
            rule(0) = 5
            one(4, 1) = 5
            one(5, 1) ! BAD
            fault 5 at 50 "plain 1 1;plain 1 1;plain 1 1;plain 1 1;plain 1 1;plain 1 1;"
            rule(0) = 5
            """);
        String ring = "in a ring: behind the last one comes 0";
        edge(TERMS, ring, """
            told "plain 3 10;plain 3 10;plain 3 10;plain 3 10;plain 10 10;coin 4;"
            quarters(1) = 0
            """);
        edge(TERMS, ring, """
            told "plain 9 10;plain 3 10;plain 3 10;plain 10 10;coin 3;"
            quarters(1) = 1
            """);
        edge(TERMS, ring, """
            told "plain 3 10;plain 4 10;plain 10 10;plain 4 10;plain 3 10;coin 2;"
            quarters(1) = 4
            """);
        edge(TERMS, ring, """
            told "plain 10 10;plain 3 10;plain 3 10;plain 3 10;plain 3 10;"
            quarters(1) = 1
            """);
        edge(TERMS, ring, """
            told "plain 3 10;plain 10 10;coin 1;"
            quarters(1) = 0
            """);
        edge(TERMS, "each a ONE of a KIND (0 plain, 1 miser, 2 founder, 3 lucky)", """
            told "plain 1 1;miser 1 1;founder 1 1;lucky 1 1;"
            one(0, 0) = 0
            one(1, 0) = 1
            one(2, 0) = 2
            one(3, 0) = 3
            alter(0, 0, 3) = 0
            alter(0, 0, 4) ! BAD
            alter(0, 0, -1) ! BAD
            """);
        edge(TERMS, "MEANS (0 to 999; told 0 to 99)", """
            told "plain 0 10;plain 99 10;plain 00 10;"
            one(0, 1) = 0
            one(1, 1) = 99
            one(2, 1) = 0
            fault 1 at 6 "plain 100 10;"
            alter(0, 1, 999) = 0
            alter(0, 1, 1000) ! BAD
            alter(0, 1, -1) ! BAD
            one(0, 1) = 999
            """);
        edge(TERMS, "a TRADE (0 to 20)", """
            told "plain 1 0;plain 1 20;"
            one(0, 2) = 0
            one(1, 2) = 20
            fault 3 at 8 "plain 1 21;"
            alter(0, 2, 21) ! BAD
            alter(0, 2, -1) ! BAD
            """);
        edge(TERMS, "who KEPT it so many QUARTERS (0 at first)", """
            told "plain 0 10;plain 0 10;"
            one(0, 3) = 0
            one(1, 3) = 0
            count(4) = 0
            quarters(1) = 0
            one(0, 3) = 1
            one(1, 3) = 0
            """);
        edge(TERMS, "QUARTER (0 at first). SLUMP (0 to 9; 0 at first)", """
            rule(1) = 0
            rule(2) = 0
            slump(9) = 0
            slump(10) ! BAD
            slump(-1) ! BAD
            told "plain 1 1;"
            rule(1) = 0
            rule(2) = 0
            told "slump 9;"
            rule(2) = 9
            told "slump 0;"
            rule(2) = 0
            """);
        edge(TERMS, "THE COIN is with a ONE (with ONE 0 at first; with nobody, if there is nobody)", """
            rule(3) = NONE
            told "plain 1 1;plain 1 1;"
            rule(3) = 0
            told "plain 1 1;plain 1 1;coin 1;"
            rule(3) = 1
            say "" = 0
            rule(3) = NONE
            hand(0) ! BAD
            """);
        edge(TERMS, "GIFTS (4 at most), by order: in a QUARTER (0 to 20) a ONE gives another one so much (1 to 20)", """
            told "plain 1 1;plain 1 1;"
            rule(6) = 0
            give(0, 0, 1, 1) = 1
            give(20, 1, 0, 20) = 2
            give(21, 0, 1, 1) ! BAD
            give(-1, 0, 1, 1) ! BAD
            give(0, 0, 1, 0) ! BAD
            give(0, 0, 1, 21) ! BAD
            give(0, 0, 0, 1) ! BAD
            give(1, 0, 1, 2) = 3
            give(1, 0, 1, 3) = 4
            give(1, 0, 1, 4) ! FULL
            gift(0, 3) = 1
            gift(1, 0) = 20
            gift(1, 3) = 20
            gift(3, 3) = 3
            gift(4, 3) ! BAD
            """);
    }

    private static void brings() {
        edge(TERMS, "TRADE BRINGS by KIND: plain TRADE less 10 less SLUMP", """
            told "plain 0 0;plain 0 20;miser 0 10;slump 9;coin 2;"
            one(0, 4) = -19
            one(1, 4) = 1
            slump(0) = 9
            one(0, 4) = -10
            one(1, 4) = 10
            """);
        edge(TERMS, "miser 1 more than a plain one", """
            told "miser 0 0;miser 0 20;miser 0 9;plain 0 0;slump 9;coin 3;"
            one(0, 4) = -18
            one(1, 4) = 2
            slump(0) = 9
            one(0, 4) = -9
            one(1, 4) = 11
            one(2, 4) = 0
            """);
        edge(TERMS, "founder half of that of a miser (toward 0)", """
            told "founder 0 8;founder 0 6;founder 0 9;founder 0 10;plain 0 0;coin 4;"
            one(0, 4) = 0
            one(1, 4) = -1
            one(2, 4) = 0
            one(3, 4) = 0
            alter(3, 2, 11) = 10
            one(3, 4) = 1
            alter(3, 2, 12) = 11
            one(3, 4) = 1
            alter(3, 2, 20) = 12
            one(3, 4) = 5
            alter(3, 2, 0) = 20
            one(3, 4) = -4
            slump(9) = 0
            one(3, 4) = -9
            """);
        edge(TERMS, "lucky as a plain one", """
            told "lucky 0 0;lucky 9 20;miser 0 10;slump 9;coin 2;"
            one(0, 4) = -19
            one(1, 4) = 1
            """);
        edge(TERMS, "plain 5; miser nothing; founder three times that of a plain one", """
            told "plain 0 10;miser 0 9;founder 0 9;"
            one(0, 4) = 5
            one(1, 4) = 0
            one(2, 4) = 0
            hand(1) = 0
            one(0, 4) = 0
            one(1, 4) = 0
            hand(2) = 1
            one(2, 4) = 15
            """);
        edge(TERMS, "lucky 2 more than a plain one for each other ONE with less MEANS than his", """
            told "lucky 5 10;plain 4 10;plain 4 10;plain 4 10;plain 4 10;"
            one(0, 4) = 13
            alter(1, 1, 5) = 4
            one(0, 4) = 11
            alter(2, 1, 6) = 4
            one(0, 4) = 9
            alter(0, 1, 0) = 5
            one(0, 4) = 5
            told "lucky 5 10;"
            one(0, 4) = 5
            // the first and the last of PEOPLE are looked at, too
            told "plain 0 10;lucky 5 10;plain 0 10;coin 1;"
            one(1, 4) = 9
            alter(0, 1, 5) = 0
            one(1, 4) = 7
            alter(2, 1, 5) = 0
            one(1, 4) = 5
            """);
    }

    private static void tape() {
        String bytes = "THE TAPE has 160 bytes, places from 0";
        edge(TERMS, bytes, "told \"slump 7;" + " ".repeat(152) + "\"\nrule(2) = 7\n");
        edge(TERMS, bytes, "told \"" + " ".repeat(152) + "slump 7;\"\nrule(2) = 7\n");
        edge(TERMS, bytes, "fault 2 at 160 \"" + " ".repeat(153) + "slump 7\"\n");
        edge(TERMS, bytes, "fault 1 at 159 \"" + " ".repeat(159) + ",\"\n");
        edge(TERMS, bytes, "fault 6 at 160 \"coin 0;" + " ".repeat(153) + "\"\n");
        edge(TERMS, bytes, "fault 1 at 0 \",\"\n");
        edge(2, "A byte (0 to 127) comes behind THE TAPE: how many it has. BAD; FULL: more than 160.", """
            feed(-1) ! BAD
            feed(0) = 1
            feed(127) = 2
            feed(128) ! BAD
            feed(288) ! BAD
            feed(MIN) ! BAD
            feed(MAX) ! BAD
            157 x feed(32)
            feed(32) = 160
            count(2) = 160
            feed(32) ! FULL
            count(2) = 160
            end(159) = 160
            feed(32) = 160
            feed(32) ! FULL
            """);
        edge(2, "A byte (0 to 127) comes behind THE TAPE", """
            // what is refused does not come behind it
            feed "slump 5"
            feed(128) ! BAD
            feed(315) ! BAD
            feed(59) = 8
            text() = 1
            rule(2) = 5
            """);
        edge(3, "THE TAPE keeps its first n bytes: how many it had. BAD.", """
            end(1) ! BAD
            end(-1) ! BAD
            end(0) = 0
            feed "slump 45;"
            end(10) ! BAD
            end(MAX) ! BAD
            end(MIN) ! BAD
            end(9) = 9
            end(7) = 9
            end(8) ! BAD
            feed(59) = 8
            text() = 1
            rule(2) = 4
            end(0) = 0
            """);
        edge(4, "THE TAPE (empty then)", """
            feed "slump 4;"
            text() = 1
            count(2) = 0
            feed "slump"
            text() ! -15
            count(2) = 0
            text() = 0
            fault() = 0
            160 x feed(32)
            text() = 0
            feed(32) = 1
            """);
    }

    private static void tokens() {
        String base = "told \"plain 7 7;\"\n";
        edge(TERMS, "TOKENS, each as long as may be, blanks (32) between", base + """
            say "plain3 9;miser 4 5;" = 2
            one(0, 1) = 3
            say "   plain   3   9   ;   " = 1
            fault 1 at 7 "plain3 <9>9;"
            fault 1 at 9 "plain 3 9<10>;"
            fault 2 at 0 "plainminer 3 9;"
            fault 2 at 0 "plai n 3 9;"
            fault 2 at 7 "plain 3a 9;"
            fault 2 at 7 "plain 3;9;"
            """);
        edge(TERMS, "NAMES (a .. z)", base + """
            fault 2 at 0 "a"
            fault 2 at 0 "z"
            fault 1 at 0 "<96>"
            fault 1 at 0 "<123>"
            fault 1 at 0 "A"
            fault 1 at 0 "Z"
            fault 1 at 0 "PLAIN 1 1;"
            fault 1 at 5 "slump<96> 1;"
            fault 1 at 5 "slump<123> 1;"
            """);
        edge(TERMS, "NUMBERS (1 or 2 figures)", base + """
            fault 2 at 0 "0"
            fault 2 at 0 "9"
            fault 2 at 0 "99"
            fault 1 at 0 "<47>"
            fault 1 at 0 "<58>"
            fault 1 at 0 "100"
            fault 1 at 6 "slump 000;"
            fault 1 at 6 "slump -1;"
            fault 1 at 7 "slump 1<47>;"
            say "slump 09;" = 1
            rule(2) = 9
            """);
        edge(TERMS, "one ;", base + """
            fault 2 at 0 ";"
            fault 1 at 9 "plain 1 1<58>"
            fault 1 at 9 "plain 1 1<60>"
            fault 1 at 9 "plain 1 1,"
            """);
        edge(TERMS, "blanks (32) between", base + """
            fault 1 at 0 "<31>"
            fault 1 at 0 "<33>"
            fault 1 at 0 "<0>"
            fault 1 at 0 "<127>"
            fault 1 at 1 " <9>"
            fault 1 at 5 "slump<13>1;"
            """);
    }

    private static void lines() {
        String base = "told \"plain 7 7;\"\n";
        edge(TERMS, "text: { line }", """
            text() = 0
            say "   " = 0
            say "plain 1 1;" = 1
            say "" = 0
            rule(0) = 0
            say "plain 1 1;miser 1 1;founder 1 1;lucky 1 1;slump 1;coin 1;gift 1 1 2 3;" = 7
            """);
        edge(TERMS, "plain N N ; | miser N N ; | founder N N ; | lucky N N ;", base + """
            fault 2 at 5 "plain"
            fault 2 at 6 "plain "
            fault 2 at 7 "plain 1"
            fault 2 at 9 "plain 1 1"
            fault 2 at 5 "plain;"
            fault 2 at 7 "plain 1;"
            fault 2 at 10 "plain 1 1 1;"
            fault 2 at 6 "plain plain 1;"
            fault 2 at 5 "miser;"
            fault 2 at 7 "miser 1;"
            fault 2 at 10 "miser 1 1 1;"
            fault 2 at 7 "founder;"
            fault 2 at 9 "founder 1;"
            fault 2 at 12 "founder 1 1 1;"
            fault 2 at 5 "lucky;"
            """);
        edge(TERMS, "slump N ; | coin N ; | gift N N N N ;", base + """
            fault 2 at 5 "slump"
            fault 2 at 5 "slump;"
            fault 2 at 8 "slump 1 1;"
            fault 2 at 4 "coin"
            fault 2 at 4 "coin;"
            fault 2 at 7 "coin 0 0;"
            fault 2 at 4 "gift"
            fault 2 at 6 "gift 0"
            fault 2 at 8 "gift 0 0"
            fault 2 at 10 "gift 0 0 1"
            fault 2 at 12 "gift 0 0 1 1"
            fault 2 at 10 "gift 0 0 1;"
            fault 2 at 13 "gift 0 0 1 1 1;"
            """);
        edge(TERMS, "plain, miser, founder, lucky: a ONE more of that KIND: MEANS, TRADE", base + """
            say "plain 99 20;miser 99 20;founder 0 0;lucky 0 0;" = 4
            one(1, 1) = 99
            one(1, 2) = 20
            one(2, 1) = 0
            one(2, 2) = 0
            fault 3 at 8 "plain 1 21;"
            fault 3 at 8 "miser 1 21;"
            fault 3 at 10 "founder 1 99;"
            fault 3 at 8 "lucky 1 21;"
            fault 1 at 8 "lucky 1 020;"
            """);
        edge(TERMS, "slump: SLUMP", base + """
            say "slump 0;" = 1
            rule(2) = 0
            say "slump 9;" = 1
            rule(2) = 9
            fault 3 at 6 "slump 10;"
            fault 3 at 6 "slump 99;"
            """);
        edge(TERMS, "coin: with whom THE COIN is (0 to 4)", base + """
            say "coin 4;plain 1 1;plain 1 1;plain 1 1;plain 1 1;plain 1 1;" = 6
            rule(3) = 4
            say "plain 1 1;coin 0;" = 2
            rule(3) = 0
            fault 3 at 5 "coin 5;"
            fault 3 at 15 "plain 1 1;coin 5;"
            """);
        edge(TERMS, "gift: a GIFT more: QUARTER, who gives (0 to 4), to whom (0 to 4), how much", """
            told "plain 1 1;plain 1 1;plain 1 1;plain 1 1;plain 1 1;gift 20 4 0 20;gift 0 0 4 1;"
            gift(0, 0) = 20
            gift(0, 1) = 4
            gift(0, 2) = 0
            gift(0, 3) = 20
            gift(1, 0) = 0
            gift(1, 1) = 0
            gift(1, 2) = 4
            gift(1, 3) = 1
            fault 3 at 5 "gift 21 0 1 1;"
            fault 3 at 7 "gift 0 5 1 1;"
            fault 3 at 9 "gift 0 0 5 1;"
            fault 3 at 11 "gift 0 0 1 0;"
            fault 3 at 11 "gift 0 0 1 21;"
            """);
    }

    private static void faults() {
        String base = "told \"plain 7 7;\"\n";
        edge(TERMS, "FAULTS, the first met as it is read (a TOKEN is read when the one before has been taken)", base + """
            fault 3 at 6 "slump 10 ,"
            fault 3 at 8 "plain 1 21,"
            fault 3 at 5 "coin 5 100"
            fault 3 at 9 "gift 0 1 1 ,"
            fault 2 at 0 "x ,"
            fault 2 at 6 "slump ; ,"
            fault 1 at 6 "slump , 10;"
            fault 1 at 6 "slump 100,"
            fault 4 at 8 "slump 1;slump ,"
            fault 4 at 17 "coin 0;plain 1 1;coin 9;"
            fault 3 at 16 "coin 4;gift 0 1 1 1;"
            fault 2 at 8 "coin 4; ;"
            """);
        edge(TERMS, "1 no TOKEN, a NUMBER that is too long (its first byte)", base + """
            fault 1 at 0 "100 plain;"
            fault 1 at 6 "plain 999 1;"
            fault 1 at 8 "plain 1 0020;"
            fault 1 at 10 "plain 1 1;?"
            fault 1 at 10 "plain 1 1 123;"
            fault 1 at 5 "plain#1 1;"
            """);
        edge(TERMS, "2 a TOKEN that can not stand there (a NAME that begins no line; or the end: the length)", base + """
            fault 2 at 0 "plainx 1 1;"
            fault 2 at 0 "plai 1 1;"
            fault 2 at 0 "slain 1 1;"
            fault 2 at 0 "plaid 1 1;"
            fault 2 at 0 "wiser 1 1;"
            fault 2 at 0 "pounder 1 1;"
            fault 2 at 0 "ducky 1 1;"
            fault 2 at 0 "clump 1;"
            fault 2 at 0 "join 0;"
            fault 2 at 0 "rift 0 0 1 1;"
            """);
        edge(TERMS, "a NAME that begins no line", base + """
            fault 2 at 0 "gifts 0 0 1 1;"
            fault 2 at 0 "coi 0;"
            fault 2 at 0 "slumps 1;"
            fault 2 at 0 "mise 1 1;"
            fault 2 at 0 "founders 1 1;"
            fault 2 at 0 "luck 1 1;"
            fault 2 at 2 "  7"
            fault 2 at 10 "plain 1 1;7"
            fault 2 at 10 "plain 1 1;;"
            fault 2 at 9 "plain 1 1"
            fault 2 at 12 "plain 1 1   "
            """);
        edge(TERMS, "3 a NUMBER out of its bounds (gift: to whom alike with who gives)", base + """
            fault 3 at 9 "gift 0 0 0 1;"
            fault 3 at 9 "gift 0 4 4 1;"
            fault 3 at 7 "gift 0 5 5 1;"
            fault 3 at 9 "gift 0 1 01 1;"
            fault 3 at 10 "gift 0 01 1 1;"
            """);
        edge(TERMS, "4 slump, coin for the second time (its NAME)", base + """
            fault 4 at 8 "slump 1;slump 1;"
            fault 4 at 8 "slump 0;slump 0;"
            fault 4 at 9 "slump 1; slump 1;"
            fault 4 at 7 "coin 0;coin 0;"
            fault 4 at 15 "slump 1;coin 0;slump 1;"
            fault 4 at 8 "slump 1;slump"
            say "slump 1;coin 0;plain 1 1;" = 3
            say "slump 1;coin 0;plain 1 1;" = 3
            """);
        edge(TERMS, "5 the 6th ONE, the 5th gift (its NAME)", """
            told "miser 1 1;miser 1 1;miser 1 1;miser 1 1;miser 1 1;"
            fault 5 at 52 "miser 1 1;miser 1 1;miser 1 1;miser 1 1;miser 1 1;  founder 1 1;"
            """);
        edge(TERMS, "5 the 6th ONE, the 5th gift (its NAME)", """
            told "miser 1 1;miser 1 1;gift 0 0 1 1;gift 0 0 1 1;gift 0 0 1 1;gift 0 0 1 1;"
            fault 5 at 52 "gift 0 0 1 1;gift 0 0 1 1;gift 0 0 1 1;gift 0 0 1 1;gift 0 0 1 1;"
            """);
        edge(TERMS, "5 the 6th ONE, the 5th gift (its NAME)", """
            // the 5th gift is met ahead of the numbers that it has not
            told "plain 7 7;"
            fault 5 at 52 "gift 0 0 1 1;gift 0 0 1 1;gift 0 0 1 1;gift 0 0 1 1;gift"
            """);
        edge(TERMS, "Behind all (the length): 6 a ONE that there is not", base + """
            fault 6 at 7 "coin 0;"
            fault 6 at 9 "coin 0;  "
            fault 6 at 17 "plain 1 1;coin 1;"
            fault 6 at 17 "coin 1;plain 1 1;"
            fault 6 at 13 "gift 0 0 1 1;"
            fault 6 at 23 "plain 1 1;gift 0 0 1 1;"
            fault 6 at 23 "plain 1 1;gift 0 1 0 1;"
            fault 6 at 33 "plain 1 1;gift 0 1 2 1;plain 1 1;"
            say "coin 1;plain 1 1;plain 1 1;" = 3
            """);
        edge(TERMS, "Behind all (the length): 6 a ONE that there is not", """
            // a later gift is looked at, too
            told "plain 7 7;"
            fault 6 at 46 "plain 1 1;plain 1 1;gift 0 0 1 1;gift 0 0 2 1;"
            say "gift 0 0 1 1;plain 1 1;plain 1 1;" = 3
            """);
    }

    private static void textTaken() {
        String setting = """
            told "plain 0 10;plain 0 10;gift 9 0 1 1;slump 3;"
            quarters(3)
            hand(1)
            see(1, 0) = 1
            keep(0) = 0
            keep(1) = 0
            sheet(0, 1, 3) = 1
            """;
        edge(TERMS, "A text that is taken tells all, in place of what there was; nothing is SEEN; IMAGES are gone", setting + """
            count(4) = 3
            say "plain 9 9;" = 1
            rule(0) = 1
            rule(1) = 0
            rule(2) = 0
            rule(3) = 0
            rule(4) = 9
            rule(6) = 0
            count(0) = 0
            count(1) = 0
            count(4) = 0
            back(0) ! STATE
            back(1) ! STATE
            count(3) = 3
            """);
        edge(TERMS, "A text that is taken tells all", setting + """
            say "" = 0
            rule(0) = 0
            rule(1) = 0
            rule(2) = 0
            rule(3) = NONE
            rule(6) = 0
            count(0) = 0
            count(1) = 0
            """);
        edge(TERMS, "A text that is taken tells all, in place of what there was", """
            // nothing of what a read went through is left, either
            told "plain 9 9;miser 9 9;gift 9 0 1 1;slump 2;coin 1;"
            quarters(3)
            see(1, 1) = 1
            sheet(0, 0, 2) = 1
            read(0, 0, 0, 1) = 1
            say "miser 9 9;miser 9 9;" = 2
            rule(1) = 0
            rule(2) = 0
            rule(3) = 0
            rule(6) = 0
            one(0, 3) = 0
            one(1, 3) = 0
            count(0) = 0
            """);
        edge(4, "how many lines; -10 less the place of its FAULT: that which was told stays", setting + """
            text() = 0
            say "slump 1;" = 1
            say "slump 1;plain 1 1;" = 2
            say "?" ! -10
            say " ?" ! -11
            rule(0) = 1
            rule(2) = 1
            """);
        edge(4, "that which was told stays", setting + """
            fault 2 at 20 "plain 1 1;plain 2 2;pla"
            fault 2 at 24 "slump 1;plain 1 1;coin 4"
            rule(0) = 2
            rule(1) = 3
            rule(2) = 3
            rule(3) = 1
            rule(6) = 1
            count(0) = 1
            count(1) = 2
            """);
        edge(5, "The FAULT of the latest text(); 0.", """
            fault() = 0
            fault 1 at 0 "?"
            fault 2 at 0 ";"
            fault 3 at 6 "slump 10;"
            fault 4 at 8 "slump 1;slump 1;"
            fault 6 at 7 "coin 0;"
            feed "x"
            fault() = 6
            end(0)
            text() = 0
            fault() = 0
            """);
    }

    // ---- terms: section 2

    private static void gifts() {
        String gives = "who gives, gives so much, all his MEANS if that is less";
        edge(TERMS, gives, """
            // 1 has 5 and is to give 4, then 5, then 6
            told "miser 0 9;plain 5 10;gift 0 1 0 4;"
            quarters(1)
            one(0, 1) = 4
            one(1, 1) = 1
            """);
        edge(TERMS, gives, """
            told "miser 0 9;plain 5 10;gift 0 1 0 5;"
            quarters(1)
            one(0, 1) = 5
            one(1, 1) = 0
            """);
        edge(TERMS, gives, """
            told "miser 0 9;plain 5 10;gift 0 1 0 6;"
            quarters(1)
            one(0, 1) = 5
            one(1, 1) = 0
            """);
        edge(TERMS, gives, """
            // who has nothing gives nothing
            told "miser 3 9;plain 0 10;gift 0 1 0 20;"
            quarters(1)
            one(0, 1) = 3
            one(1, 1) = 0
            """);
        edge(TERMS, "GIFTS of it (by order)", """
            // what comes by the first is given by the second, not the other way round
            told "miser 9 9;plain 0 10;plain 0 10;gift 0 0 1 3;gift 0 1 2 2;"
            quarters(1)
            one(0, 1) = 6
            one(1, 1) = 1
            one(2, 1) = 2
            """);
        edge(TERMS, "GIFTS of it (by order)", """
            told "miser 9 9;plain 0 10;plain 0 10;gift 0 1 2 2;gift 0 0 1 3;"
            quarters(1)
            one(1, 1) = 3
            one(2, 1) = 0
            """);
        edge(TERMS, "GIFTS of it", """
            // in its own quarter alone, 0 and 20 among them
            told "miser 90 9;plain 0 10;gift 0 0 1 1;gift 2 0 1 3;gift 20 0 1 5;"
            ahead(1, 0, 0) = 0
            ahead(1, 1, 0) = 1
            ahead(1, 2, 0) = 1
            ahead(1, 3, 0) = 4
            ahead(1, 20, 0) = 4
            ahead(1, 21, 0) = 9
            ahead(1, 60, 0) = 9
            quarters(20)
            one(1, 1) = 4
            quarters(1)
            one(1, 1) = 9
            quarters(30)
            one(1, 1) = 9
            """);
    }

    private static void meansBounds() {
        String bounds = "by MEANS of all as they are behind the GIFTS; 0 at least, 999 at most, so as with GIFTS";
        edge(TERMS, bounds, """
            // a gift makes the lucky one poorer than 1: one less, not two
            told "lucky 5 10;plain 4 10;plain 3 10;gift 0 0 1 1;"
            quarters(1)
            one(0, 1) = 11
            """);
        edge(TERMS, bounds, """
            // 1 and 2 have more by their trades in the quarter, but the coin looks ahead of that
            told "lucky 5 10;plain 4 20;plain 4 20;"
            quarters(1)
            one(0, 1) = 14
            """);
        edge(TERMS, bounds, """
            // trade and coin come together: 7 less 10 and 5 more is 2, then 0
            told "plain 7 0;"
            quarters(1)
            one(0, 1) = 2
            quarters(1)
            one(0, 1) = 0
            """);
        edge(TERMS, bounds, """
            told "miser 50 9;plain 10 0;plain 11 0;plain 9 0;"
            quarters(1)
            one(1, 1) = 0
            one(2, 1) = 1
            one(3, 1) = 0
            rule(5) = 10
            """);
        edge(TERMS, bounds, """
            told "miser 50 9;plain 0 20;plain 0 20;plain 0 20;plain 0 10;"
            alter(1, 1, 989)
            alter(2, 1, 990)
            alter(3, 1, 988)
            alter(4, 1, 999)
            quarters(1)
            one(1, 1) = 999
            one(2, 1) = 999
            one(3, 1) = 998
            one(4, 1) = 999
            """);
        edge(TERMS, bounds, """
            // what is above 999 by a gift is gone, and he loses from 999 on
            told "miser 50 9;plain 0 9;gift 0 0 1 20;"
            alter(1, 1, 990)
            quarters(1)
            one(0, 1) = 30
            one(1, 1) = 998
            """);
        edge(TERMS, bounds, """
            // just 999 by a gift
            told "miser 50 9;plain 0 10;gift 0 0 1 9;"
            alter(1, 1, 990)
            quarters(1)
            one(0, 1) = 41
            one(1, 1) = 999
            """);
        edge(TERMS, bounds, """
            // the coin of a founder
            told "founder 0 9;"
            alter(0, 1, 984)
            quarters(1)
            one(0, 1) = 999
            quarters(1)
            one(0, 1) = 999
            """);
    }

    private static void handingOn() {
        String hands = "who has THE COIN hands it on, if his MEANS are 10 or more, a miser if they are 0";
        edge(TERMS, hands, """
            told "plain 4 10;plain 50 10;"
            quarters(1) = 0
            one(0, 1) = 9
            one(0, 3) = 1
            """);
        edge(TERMS, hands, """
            told "plain 5 10;plain 50 10;"
            quarters(1) = 1
            one(0, 1) = 10
            one(0, 3) = 0
            """);
        edge(TERMS, hands, """
            // a plain one with nothing keeps it
            told "plain 0 0;plain 50 10;"
            quarters(1) = 0
            one(0, 1) = 0
            one(0, 3) = 1
            """);
        edge(TERMS, hands, """
            told "founder 0 4;plain 50 10;"
            // 15 and half of 5 less: 13
            quarters(1) = 1
            one(0, 1) = 13
            """);
        edge(TERMS, hands, """
            told "lucky 4 10;plain 4 10;"
            quarters(1) = 0
            one(0, 1) = 9
            quarters(1) = 1
            """);
        edge(TERMS, hands, """
            told "miser 2 8;plain 50 10;"
            quarters(1) = 0
            one(0, 1) = 1
            quarters(1) = 1
            one(0, 1) = 0
            one(0, 3) = 1
            """);
        edge(TERMS, hands, """
            told "miser 9 10;plain 0 10;"
            quarters(1) = 0
            one(0, 1) = 10
            one(0, 3) = 1
            """);
        edge(TERMS, "is there another ONE", """
            told "plain 99 20;"
            quarters(2) = 0
            one(0, 3) = 2
            told "miser 0 0;"
            quarters(2) = 0
            one(0, 3) = 2
            """);
        edge(TERMS, "to the other ONE with least MEANS, of several the first behind him in the ring", """
            // the miser has least himself: it goes to the first of the others with 5
            told "plain 6 10;plain 5 10;miser 0 5;plain 6 10;plain 5 10;coin 2;"
            quarters(1) = 4
            """);
        edge(TERMS, "to the other ONE with least MEANS, of several the first behind him in the ring", """
            // least behind the quarter, not ahead of it
            told "plain 50 10;plain 3 20;plain 9 10;"
            quarters(1) = 2
            """);
        edge(TERMS, "Does he not, he KEPT it 1 more. QUARTER is 1 more.", """
            told "plain 0 10;plain 0 10;"
            quarters(1) = 0
            one(0, 3) = 1
            rule(1) = 1
            quarters(1) = 1
            one(0, 3) = 1
            one(1, 3) = 0
            rule(1) = 2
            quarters(1) = 1
            one(1, 3) = 1
            count(4) = 2
            """);
        edge(TERMS, "RUINED is a ONE with MEANS 0.", """
            told "plain 0 10;plain 1 10;plain 0 10;"
            rule(5) = 5
            alter(0, 1, 1) = 0
            rule(5) = 4
            alter(1, 1, 0) = 1
            rule(5) = 6
            """);
        edge(TERMS, "BY QUARTERS: as it would be from now on.", """
            told "plain 0 10;plain 0 10;gift 2 0 1 1;"
            runs(60, 0) ! 300
            ahead(0, 2, 0) ! 10
            ahead(0, 3, 0) ! 9
            quarters(2) = 1
            ahead(0, 1, 0) ! 9
            runs(0, 4) ! 1
            rule(1) = 2
            """);
    }

    private static void seenAndSheets() {
        edge(TERMS, "SEEN (6): behind n QUARTERS (0 to 20) from now on THE COIN is with a ONE.", """
            told "plain 0 10;plain 0 10;"
            count(0) = 0
            see(0, 0) = 1
            see(20, 0) = 2
            see(21, 0) ! BAD
            see(-1, 0) ! BAD
            4 x see(2, 1)
            count(0) = 6
            see(2, 1) ! FULL
            """);
        edge(TERMS, "SHEETS 0 to 3 are rows of BYTES (lane 0), SHORTS (1), INTS (2) with 0 to 40 CELLS, or nothing (at first)", """
            lay(0, 0, 0) ! -11
            lay(1, 0, 0) ! -11
            lay(2, 0, 0) ! -11
            lay(3, 0, 0) ! -11
            lay(4, 0, 0) ! BAD
            lay(-1, 0, 0) ! BAD
            sheet(3, 2, 40) = 1
            sheet(3, 2, 41) ! BAD
            sheet(3, 3, 40) ! BAD
            sheet(3, -1, 40) ! BAD
            sheet(4, 2, 40) ! BAD
            sheet(-1, 2, 40) ! BAD
            lay(3, 39, 5) = 1
            lay(3, 40, 5) ! -12
            sheet(0, 0, 0) = 1
            lay(0, 0, 5) ! -12
            """);
        edge(TERMS, "A FAULT is what the machine finds: 1 NULL (nothing), 2 INDEX, 3 CAST (another lane), 4 SIZE (below 0).", """
            told "plain 1 1;"
            sheet(0, 0, 2) = 1
            read(1, 0, 0, 1) = 0
            torn() = 1
            read(0, 0, 1, 1) = 0
            torn() = 2
            read(0, 1, 0, 1) = 0
            torn() = 3
            read(0, 2, 0, 1) = 0
            torn() = 3
            sheet(0, 0, -1) ! -14
            sheet(0, 2, MIN) ! -14
            lay(1, 0, 0) ! -11
            lay(0, 2, 0) ! -12
            lay(0, -1, 0) ! -12
            """);
    }

    // ---- the promises, by their numbers

    private static void looks() {
        edge(1, "Nobody; SHEETS of nothing.", """
            rule(0) = 0
            rule(1) = 0
            rule(2) = 0
            rule(3) = NONE
            rule(4) = 0
            rule(5) = 0
            rule(6) = 0
            fault() = 0
            torn() = 0
            count(0) = 0
            count(1) = 0
            count(2) = 0
            count(3) = NONE
            count(4) = 0
            lay(0, 0, 0) ! -11
            lay(3, 0, 0) ! -11
            round() ! NONE
            text() = 0
            """);
        edge(6, "3 with whom THE COIN is (NONE: nobody is there)", """
            rule(3) ! NONE
            told "plain 1 1;"
            rule(3) = 0
            """);
        edge(6, "4 MEANS of all, 5 who is RUINED (bits), 6 GIFTS. BAD.", """
            rule(4) = 0
            rule(5) = 0
            rule(6) = 0
            told "plain 0 1;plain 0 1;plain 0 1;plain 0 1;plain 0 1;gift 0 0 1 1;gift 0 0 1 1;gift 0 0 1 1;gift 0 0 1 1;"
            rule(4) = 0
            rule(5) = 31
            rule(6) = 4
            alter(0, 1, 999)
            alter(1, 1, 999)
            alter(2, 1, 999)
            alter(3, 1, 999)
            rule(5) = 16
            alter(4, 1, 999)
            rule(4) = 4995
            rule(5) = 0
            rule(7) ! BAD
            rule(-1) ! BAD
            rule(MIN) ! BAD
            rule(MAX) ! BAD
            """);
        edge(7, "3 KEPT, 4 what TRADE and, has he it, THE COIN would BRING now. BAD.", """
            told "plain 0 10;lucky 0 10;"
            33 x quarters(30)
            quarters(9)
            one(1, 5) ! BAD
            one(1, -1) ! BAD
            one(2, 0) ! BAD
            one(-1, 0) ! BAD
            one(MIN, MIN) ! BAD
            one(MAX, MAX) ! BAD
            """);
        edge(7, "3 KEPT", """
            // who is alone keeps it in every quarter that there is
            told "plain 0 10;"
            33 x quarters(30)
            quarters(9) = 0
            one(0, 3) = 999
            one(0, 1) = 999
            quarters(1) ! FULL
            one(0, 3) = 999
            """);
        edge(7, "would BRING now", """
            // what he would lose below 0, or have above 999, is told whole; gifts are not counted
            told "plain 0 0;plain 0 20;slump 9;gift 0 1 0 9;"
            one(0, 4) = -14
            one(1, 4) = 1
            alter(1, 1, 999)
            slump(0)
            one(1, 4) = 10
            hand(1)
            one(1, 4) = 15
            one(0, 4) = -10
            """);
        edge(8, "0 QUARTER, 1 who gives, 2 to whom, 3 how much. BAD.", """
            gift(0, 0) ! BAD
            told "plain 1 1;plain 1 1;gift 20 1 0 7;"
            gift(0, 0) = 20
            gift(0, 1) = 1
            gift(0, 2) = 0
            gift(0, 3) = 7
            gift(0, 4) ! BAD
            gift(0, -1) ! BAD
            gift(1, 0) ! BAD
            gift(-1, 0) ! BAD
            gift(MAX, 0) ! BAD
            gift(MIN, 0) ! BAD
            gift(0, MAX) ! BAD
            drop(0) = 1
            gift(0, 0) ! BAD
            """);
    }

    private static void changes() {
        edge(9, "KIND, MEANS (0 to 999), TRADE (what 0 to 2) of a ONE becomes v: what it was. BAD.", """
            alter(0, 0, 0) ! BAD
            told "plain 3 9;miser 4 10;"
            alter(0, 0, 3) = 0
            alter(0, 0, 0) = 3
            alter(0, 0, 4) ! BAD
            alter(0, 0, -1) ! BAD
            alter(1, 1, 999) = 4
            alter(1, 1, 0) = 999
            alter(1, 1, 1000) ! BAD
            alter(1, 1, -1) ! BAD
            alter(1, 2, 20) = 10
            alter(1, 2, 0) = 20
            alter(1, 2, 21) ! BAD
            alter(1, 2, -1) ! BAD
            alter(1, 3, 0) ! BAD
            alter(1, -1, 0) ! BAD
            alter(2, 0, 0) ! BAD
            alter(-1, 0, 0) ! BAD
            alter(0, 1, MAX) ! BAD
            alter(0, 1, MIN) ! BAD
            alter(1, 1, 1) = 0
            """);
        edge(10, "SLUMP becomes v: what it was. BAD.", """
            // nobody needs to be there
            slump(9) = 0
            slump(10) ! BAD
            slump(-1) ! BAD
            slump(MIN) ! BAD
            slump(MAX) ! BAD
            slump(0) = 9
            rule(2) = 0
            """);
        edge(11, "THE COIN is with a ONE: with whom it was. BAD.", """
            hand(0) ! BAD
            told "plain 1 1;plain 1 1;plain 1 1;plain 1 1;plain 1 1;"
            hand(5) ! BAD
            hand(-1) ! BAD
            hand(MIN) ! BAD
            hand(MAX) ! BAD
            hand(4) = 0
            hand(4) = 4
            hand(0) = 4
            count(4) = 0
            """);
        edge(12, "A GIFT more: how many there are. BAD (also alike); FULL.", """
            give(0, 0, 1, 1) ! BAD
            told "plain 1 1;"
            give(0, 0, 1, 1) ! BAD
            give(0, 0, 0, 1) ! BAD
            told "plain 1 1;plain 1 1;"
            give(0, 1, 1, 1) ! BAD
            give(0, 2, 1, 1) ! BAD
            give(0, -1, 1, 1) ! BAD
            give(0, 1, -1, 1) ! BAD
            give(0, 0, 1, 1) = 1
            give(20, 0, 1, 20) = 2
            give(0, 0, 1, 1) = 3
            give(0, 0, 1, 1) = 4
            give(0, 0, 1, 1) ! FULL
            give(0, 1, 1, 1) ! BAD
            drop(3) = 4
            give(0, 1, 0, 2) = 4
            gift(3, 3) = 2
            """);
        edge(12, "A GIFT more", """
            // a quarter that is over, and one that is not yet, are taken alike
            told "miser 50 9;plain 0 10;"
            quarters(21)
            give(20, 0, 1, 1) = 1
            give(21, 0, 1, 1) ! BAD
            quarters(1)
            one(1, 1) = 0
            """);
        edge(13, "GIFTS are the first n alone: how many there were. BAD.", """
            drop(0) = 0
            drop(1) ! BAD
            told "plain 1 1;plain 1 1;gift 1 0 1 1;gift 2 0 1 2;gift 3 0 1 3;gift 4 0 1 4;"
            drop(5) ! BAD
            drop(-1) ! BAD
            drop(MIN) ! BAD
            drop(MAX) ! BAD
            drop(4) = 4
            drop(3) = 4
            drop(4) ! BAD
            gift(2, 3) = 3
            drop(1) = 3
            gift(0, 3) = 1
            drop(0) = 1
            rule(6) = 0
            """);
    }

    private static void quarters() {
        edge(14, "n QUARTERS go (0 to 30): with whom THE COIN is then (NONE: nobody is there)", """
            quarters(0) = NONE
            quarters(30) = NONE
            quarters(31) ! BAD
            told "plain 0 10;plain 0 10;"
            quarters(31) ! BAD
            quarters(-1) ! BAD
            quarters(MIN) ! BAD
            quarters(MAX) ! BAD
            quarters(0) = 0
            rule(1) = 0
            quarters(30) = 0
            rule(1) = 30
            quarters(1) = 1
            """);
        edge(14, "FULL: QUARTER would be 1000 or more", """
            told "plain 0 10;plain 0 10;"
            33 x quarters(30)
            rule(1) = 990
            quarters(10) ! FULL
            quarters(30) ! FULL
            quarters(9)
            rule(1) = 999
            quarters(1) ! FULL
            quarters(30) ! FULL
            quarters(31) ! BAD
            runs(60, 0) ! 1998
            """);
        edge(15, "n of them (0 to 60)", """
            // 0 or 60 of them, also where quarters() could go no farther
            told "plain 0 10;plain 0 10;"
            runs(0, 0) = 0
            runs(60, 0) = 300
            runs(61, 0) ! BAD
            runs(-1, 0) ! BAD
            runs(MIN, 0) ! BAD
            runs(MAX, 0) ! BAD
            runs(1, 5) ! BAD
            runs(1, -1) ! BAD
            runs(0, 2) = 0
            runs(2, 2) = 1
            runs(60, 2) = 58
            """);
        edge(15, "behind how many first somebody is RUINED (3: from 1 on; NONE)", """
            told "plain 0 15;"
            runs(0, 1) = 1
            runs(0, 3) = NONE
            runs(60, 3) = NONE
            told "plain 60 4;"
            runs(59, 3) = NONE
            runs(60, 3) = 60
            told "plain 61 4;"
            runs(60, 3) = NONE
            told "plain 0 5;"
            runs(1, 3) = 1
            say "" = 0
            runs(60, 3) = NONE
            """);
        edge(15, "with whom it is then (4; NONE)", """
            runs(0, 4) = NONE
            runs(60, 4) = NONE
            runs(5, 0) = 0
            runs(5, 1) = 0
            runs(5, 2) = 0
            rule(1) = 0
            told "plain 0 10;plain 0 10;"
            runs(0, 4) = 0
            runs(59, 4) = 1
            runs(60, 4) = 0
            """);
        edge(15, "MEANS of all then (what 0), who is RUINED then (1; bits)", """
            // 20 a quarter from 99 on, until 999 behind 45
            told "founder 99 20;"
            runs(44, 0) = 979
            runs(45, 0) = 999
            runs(60, 0) = 999
            told "plain 0 0;plain 0 0;plain 0 0;plain 0 0;plain 0 0;"
            runs(60, 1) = 31
            told "plain 0 15;plain 5 0;"
            runs(0, 1) = 1
            runs(1, 1) = 2
            """);
        edge(16, "MEANS of a ONE then (what 0), how often he was RUINED behind one of them (1). BAD.", """
            ahead(0, 0, 0) ! BAD
            told "plain 0 0;plain 3 9;"
            ahead(0, 0, 1) = 0
            ahead(0, 60, 1) = 60
            ahead(1, 2, 1) = 0
            ahead(1, 3, 1) = 1
            ahead(1, 60, 1) = 58
            ahead(1, 0, 0) = 3
            ahead(1, 60, 0) = 0
            ahead(1, 61, 0) ! BAD
            ahead(1, -1, 0) ! BAD
            ahead(1, 1, 2) ! BAD
            ahead(1, 1, -1) ! BAD
            ahead(2, 1, 0) ! BAD
            ahead(-1, 1, 0) ! BAD
            """);
    }

    private static void whereItIs() {
        edge(17, "behind how many (0 to 60) THE COIN is first with a ONE. BAD; NONE: behind none.", """
            soonest(0) ! BAD
            // a miser who loses 1 a quarter hands it on when he has nothing
            told "miser 60 8;plain 0 10;"
            soonest(0) = 0
            soonest(1) = 60
            soonest(2) ! BAD
            soonest(-1) ! BAD
            soonest(MIN) ! BAD
            soonest(MAX) ! BAD
            told "miser 61 8;plain 0 10;"
            soonest(1) ! NONE
            told "miser 1 8;plain 0 10;"
            soonest(1) = 1
            """);
        edge(18, "of n (1 to 60) behind which part THE COIN is with a ONE: 0, 1. BAD.", """
            share(0, 1, 0) ! BAD
            told "plain 0 10;plain 0 10;"
            share(0, 0, 0) ! BAD
            share(0, 61, 0) ! BAD
            share(0, -1, 0) ! BAD
            share(0, MAX, 0) ! BAD
            share(2, 1, 0) ! BAD
            share(-1, 1, 0) ! BAD
            share(0, 1, 2) ! BAD
            share(0, 1, -1) ! BAD
            share(0, 60, 0) = 1
            share(0, 60, 1) = 2
            share(0, 59, 0) = 29
            share(0, 59, 1) = 59
            share(1, 59, 0) = 30
            share(1, 2, 0) = 1
            share(1, 2, 1) = 2
            """);
        edge(18, "behind which part THE COIN is with a ONE", """
            // now does not count
            told "miser 1 8;plain 50 10;"
            share(0, 1, 0) = 0
            share(0, 1, 1) = 1
            share(1, 1, 0) = 1
            share(1, 1, 1) = 1
            """);
        edge(19, "behind how many (1 to 60) THE COIN was with all of PEOPLE first (now, too). NONE: behind none; nobody is there.", """
            round() ! NONE
            told "plain 5 5;"
            round() = 1
            told "miser 1 8;plain 50 10;"
            round() = 1
            // now counts for whoever has it, 0 or another
            told "plain 50 10;miser 1 8;coin 1;"
            round() = 1
            told "plain 50 10;plain 5 10;plain 60 10;coin 2;"
            round() = 2
            told "miser 60 8;plain 0 10;"
            round() = 60
            told "miser 61 8;plain 0 10;"
            round() ! NONE
            told "plain 5 10;plain 5 10;plain 5 10;plain 5 10;plain 5 10;"
            // 5 more each, and behind the fourth quarter the last has it
            round() = 4
            """);
    }

    private static void bestTradeKeeperKind() {
        String trade = "The TRADE (0 to 20) of a ONE by which THE COIN comes to him soonest (in 60 QUARTERS), of several the least";
        edge(20, trade, """
            trade(0, 0) ! BAD
            // by 20 alone 1 has 10 to give, by which 0 has 10
            told "plain 0 5;plain 0 10;gift 1 1 0 20;"
            trade(1, 0) = 20
            trade(1, 1) = 2
            trade(0, 0) = 0
            trade(0, 1) = 0
            slump(1)
            trade(1, 0) ! NONE
            trade(1, 1) ! NONE
            trade(2, 0) ! BAD
            trade(-1, 0) ! BAD
            trade(1, 2) ! BAD
            trade(1, -1) ! BAD
            trade(MIN, MAX) ! BAD
            one(1, 2) = 10
            """);
        edge(20, trade, """
            told "miser 60 8;plain 0 10;"
            trade(1, 0) = 0
            trade(1, 1) = 60
            told "miser 61 8;plain 0 10;"
            trade(1, 0) ! NONE
            trade(1, 1) ! NONE
            """);
        edge(20, "of several the least", """
            // both have it behind 1, if the other has no less: by 13 and below 1 has least
            told "plain 9 10;plain 5 10;plain 8 10;"
            trade(1, 0) = 0
            trade(1, 1) = 1
            """);
        String keeper = "MEANS of all are most behind n QUARTERS (0 to 60), of several the first (what 0), these MEANS (1)";
        edge(21, keeper, """
            keeper(0, 0) ! NONE
            keeper(60, 1) ! NONE
            told "plain 0 10;founder 0 10;miser 0 10;founder 0 10;"
            keeper(0, 0) = 0
            keeper(0, 1) = 0
            keeper(1, 0) = 1
            keeper(1, 1) = 16
            keeper(61, 0) ! BAD
            keeper(-1, 0) ! BAD
            keeper(MAX, 0) ! BAD
            keeper(1, 2) ! BAD
            keeper(1, -1) ! BAD
            rule(3) = 0
            """);
        edge(21, keeper, """
            // nobody has anything: the first, and these are 0
            told "plain 0 0;plain 0 0;slump 9;"
            keeper(60, 0) = 0
            keeper(60, 1) = 0
            // a founder has 6 and 12 by it, hands it on, and loses it all
            alter(1, 0, 2)
            keeper(1, 0) = 1
            keeper(1, 1) = 6
            keeper(2, 1) = 12
            keeper(60, 0) = 0
            keeper(60, 1) = 0
            """);
        String kind = "The KIND of a ONE by which his MEANS are most behind n QUARTERS (0 to 60), of several the first";
        edge(22, kind, """
            kind(0, 0, 0) ! BAD
            told "plain 0 10;plain 0 10;"
            kind(0, 0, 0) = 0
            kind(0, 0, 1) = 0
            kind(0, 1, 0) = 2
            kind(0, 1, 1) = 15
            kind(1, 1, 0) = 1
            kind(1, 1, 1) = 1
            kind(0, 61, 0) ! BAD
            kind(0, -1, 0) ! BAD
            kind(0, MIN, 0) ! BAD
            kind(2, 1, 0) ! BAD
            kind(-1, 1, 0) ! BAD
            kind(0, 1, 2) ! BAD
            kind(0, 1, -1) ! BAD
            one(0, 0) = 0
            """);
        edge(22, kind, """
            // a lucky one with four below him: 10 and 13 more
            told "plain 50 20;plain 1 10;plain 1 10;plain 1 10;plain 1 10;"
            kind(0, 1, 0) = 3
            kind(0, 1, 1) = 73
            told "plain 0 0;slump 9;"
            kind(0, 60, 0) = 2
            kind(0, 60, 1) = 360
            told "miser 50 9;plain 0 0;slump 9;"
            kind(1, 1, 0) = 0
            kind(1, 1, 1) = 0
            """);
    }

    private static void almsHelpSwap() {
        String alms = "The least alms (0 to 99 more MEANS now, 999 at most) by which a ONE is RUINED behind none of n QUARTERS (0 to 60)";
        edge(23, alms, """
            alms(0, 0) ! BAD
            told "plain 0 0;"
            alms(0, 0) = 0
            alms(0, 1) = 6
            alms(0, 19) = 96
            alms(0, 20) ! NONE
            alms(0, 60) ! NONE
            alms(0, 61) ! BAD
            alms(0, -1) ! BAD
            alms(0, MAX) ! BAD
            alms(1, 0) ! BAD
            alms(-1, 0) ! BAD
            alter(0, 1, 1)
            alms(0, 20) ! NONE
            alter(0, 1, 2)
            alms(0, 20) = 99
            alter(0, 1, 100)
            alms(0, 20) = 1
            alter(0, 1, 101)
            alms(0, 20) = 0
            """);
        edge(23, "999 at most", """
            // 19 less a quarter: 989 are needed for 52, 1008 for 53
            told "miser 99 20;plain 50 0;slump 9;"
            alter(1, 1, 950)
            alms(1, 52) = 39
            alms(1, 53) ! NONE
            alter(1, 1, 999)
            alms(1, 52) = 0
            alms(1, 53) ! NONE
            """);
        edge(23, "RUINED behind none of n QUARTERS", """
            // ruined behind the first alone, by a gift that he makes
            told "miser 50 9;plain 5 10;gift 0 1 0 5;gift 1 0 1 9;"
            alms(1, 0) = 0
            alms(1, 1) = 1
            alms(1, 60) = 1
            """);
        helps();
        String swap = "The two ONES who are to change TRADES so that fewest are RUINED behind n QUARTERS (0 to 60), fewer than as it is";
        edge(25, swap, """
            swap(0, 0) ! NONE
            told "miser 9 9;"
            swap(1, 0) ! NONE
            told "miser 9 9;miser 9 9;miser 9 9;miser 50 10;miser 0 9;"
            swap(0, 0) ! NONE
            swap(1, 0) = 34
            swap(1, 1) = 0
            swap(60, 0) = 34
            swap(60, 1) = 0
            swap(61, 0) ! BAD
            swap(-1, 0) ! BAD
            swap(MIN, 0) ! BAD
            swap(1, 2) ! BAD
            swap(1, -1) ! BAD
            one(3, 2) = 10
            one(4, 2) = 9
            alter(4, 1, 1)
            swap(1, 0) ! NONE
            swap(1, 1) ! NONE
            """);
        edge(25, "10 times the lesser and the greater, of several the least", """
            told "miser 50 10;miser 50 10;miser 0 9;miser 0 9;"
            swap(1, 0) = 2
            swap(1, 1) = 1
            alter(0, 2, 9)
            swap(1, 0) = 12
            """);
    }

    private static void helps() {
        String help = "The GIFT more in this QUARTER of 1 to 20 (behind all others) by which fewest are RUINED behind n QUARTERS (0 to 20), fewer than as it is";
        edge(24, help, """
            help(0, 0) ! NONE
            told "miser 0 9;"
            help(1, 0) ! NONE
            told "miser 50 9;miser 0 9;"
            help(0, 0) ! NONE
            help(1, 0) = 101
            help(1, 1) = 0
            help(20, 0) = 101
            help(21, 0) ! BAD
            help(-1, 0) ! BAD
            help(MAX, 0) ! BAD
            help(1, 2) ! BAD
            help(1, -1) ! BAD
            rule(6) = 0
            alter(1, 1, 1)
            help(1, 0) ! NONE
            help(1, 1) ! NONE
            """);
        edge(24, "of 1 to 20", """
            // 10 less a quarter: 21 are needed behind 2
            told "plain 1 0;miser 90 10;coin 1;"
            help(2, 0) = 1020
            help(2, 1) = 0
            alter(0, 1, 0)
            help(2, 0) ! NONE
            help(1, 0) = 1011
            """);
        edge(24, "(behind all others)", """
            // 0 has nothing left to give behind the gift that there is; 1 gives him one back
            told "plain 2 10;plain 0 10;plain 0 10;miser 1 9;gift 0 0 1 2;coin 3;"
            runs(1, 1) = 5
            help(1, 0) = 1001
            help(1, 1) = 1
            """);
        edge(24, "in this QUARTER", """
            told "miser 50 9;miser 0 9;"
            quarters(20)
            help(1, 0) = 101
            // GIFTS are told for quarters up to 20; 'in this QUARTER' is taken by its words behind that, too
            quarters(1)
            help(1, 0) = 101
            give(21, 0, 1, 1) ! BAD
            """);
        edge(24, "of several the first by who, whom, how much: 1000 times who, 100 times whom and how much", """
            // 0 and 1 may give, to 2 or 3
            told "miser 50 9;miser 50 9;miser 0 9;miser 0 9;miser 1 9;"
            help(1, 0) = 201
            help(1, 1) = 1
            alter(0, 1, 1)
            help(1, 0) = 1201
            alter(1, 1, 1)
            alter(4, 1, 2)
            help(1, 0) = 4201
            """);
        edge(24, "BAD; FULL; NONE: by none.", """
            told "miser 50 9;miser 0 9;gift 5 0 1 1;gift 5 0 1 1;gift 5 0 1 1;"
            help(1, 0) = 101
            give(5, 0, 1, 1) = 4
            help(1, 0) ! FULL
            help(1, 1) ! FULL
            help(21, 0) ! BAD
            """);
    }

    private static void odds() {
        // In a quarter that is no slump the miser has 1 more; a slump leaves him nothing, and 1 never has nothing.
        String onceGone = "told \"miser 0 10;miser 9 20;\"\n";
        String luck = "Each of n QUARTERS (0 to 8) from now on is a slump (SLUMP 9 in it) by v out of ten (0 to 10), by itself";
        edge(26, luck, "luck(0, 0, 0, 0) ! BAD\n" + onceGone + """
            luck(10, 0, 0, 0) = 1
            luck(10, 0, 0, 1) = 1
            luck(10, 1, 0, 0) = 0
            luck(0, 0, 8, 0) = 1
            luck(0, 0, 8, 1) = 1
            luck(10, 0, 8, 0) = 0
            luck(10, 0, 8, 1) = 1
            luck(10, 1, 8, 0) = 1
            luck(10, 1, 8, 1) = 1
            luck(1, 0, 8, 0) = 43046721
            luck(1, 0, 8, 1) = 100000000
            luck(1, 1, 8, 0) = 56953279
            luck(1, 1, 8, 1) = 100000000
            luck(5, 0, 8, 0) = 1
            luck(5, 0, 8, 1) = 256
            luck(9, 0, 8, 0) = 1
            luck(9, 0, 8, 1) = 100000000
            """);
        edge(26, "BAD.", onceGone + """
            luck(-1, 0, 1, 0) ! BAD
            luck(11, 0, 1, 0) ! BAD
            luck(0, 2, 1, 0) ! BAD
            luck(0, -1, 1, 0) ! BAD
            luck(0, 0, 9, 0) ! BAD
            luck(0, 0, -1, 0) ! BAD
            luck(0, 0, 1, 2) ! BAD
            luck(0, 0, 1, -1) ! BAD
            luck(MIN, MIN, MIN, MIN) ! BAD
            luck(MAX, MAX, MAX, MAX) ! BAD
            luck(5, 0, 1, 0) ! 1
            """);
        edge(26, "SLUMP 9 in it", onceGone + """
            // a slump is as it is by now
            slump(9)
            luck(0, 0, 1, 0) = 0
            luck(0, 1, 1, 0) = 1
            rule(2) = 9
            """);
        edge(27, "Likewise, the mean of MEANS of a ONE behind them: 0, 1. BAD.", """
            mean(0, 0, 0, 0) ! BAD
            told "plain 90 10;"
            mean(10, 0, 0, 0) = 90
            mean(10, 0, 0, 1) = 1
            mean(0, 0, 8, 0) = 130
            mean(0, 0, 8, 1) = 1
            mean(10, 0, 8, 0) = 58
            mean(10, 0, 8, 1) = 1
            mean(5, 0, 8, 0) = 94
            mean(5, 0, 8, 1) = 1
            mean(1, 0, 8, 0) = 614
            mean(1, 0, 8, 1) = 5
            mean(-1, 0, 1, 0) ! BAD
            mean(11, 0, 1, 0) ! BAD
            mean(0, 1, 1, 0) ! BAD
            mean(0, -1, 1, 0) ! BAD
            mean(0, 0, 9, 0) ! BAD
            mean(0, 0, -1, 0) ! BAD
            mean(0, 0, 1, 2) ! BAD
            mean(0, 0, 1, -1) ! BAD
            mean(MIN, MIN, MIN, MIN) ! BAD
            mean(MAX, MAX, MAX, MAX) ! BAD
            """);
        edge(27, "the mean of MEANS", """
            // 0 at least and 999 at most in each way by itself
            told "plain 3 10;"
            mean(5, 0, 1, 0) = 4
            mean(5, 0, 1, 1) = 1
            alter(0, 1, 998)
            mean(5, 0, 1, 0) = 1993
            mean(5, 0, 1, 1) = 2
            alter(0, 2, 0)
            alter(0, 1, 0)
            mean(5, 0, 8, 0) = 0
            mean(5, 0, 8, 1) = 1
            """);
    }

    private static void fromWhoHadIt() {
        // By 20 alone 1 has 10 to give, by which 0 has 10 and hands the coin on behind 2.
        String byTwenty = "told \"plain 0 5;plain 0 10;gift 1 1 0 20;\"\n";
        // By 11 and more 1 has something to give in quarter 19, and the coin is handed on behind 20.
        String late = "told \"plain 0 5;plain 0 10;gift 19 1 0 20;\"\n";
        edge(28, "behind n QUARTERS (0 to 20) THE COIN is with a ONE: how many are. BAD; FULL.", "see(0, 0) ! BAD\n" + byTwenty + """
            see(21, 0) ! BAD
            see(-1, 0) ! BAD
            see(MIN, 0) ! BAD
            see(MAX, 0) ! BAD
            see(0, 2) ! BAD
            see(0, -1) ! BAD
            see(0, MAX) ! BAD
            see(0, 0) = 1
            see(20, 0) = 2
            see(20, 0) = 3
            see(20, 1) = 4
            see(0, 0) = 5
            see(0, 0) = 6
            see(0, 0) ! FULL
            see(0, 2) ! BAD
            count(0) = 6
            """);
        edge(29, "SEEN are the first n alone: how many there were. BAD.", "forget(0) = 0\nforget(1) ! BAD\n" + byTwenty + """
            see(2, 1) = 1
            see(2, 0) = 2
            forget(3) ! BAD
            forget(-1) ! BAD
            forget(MIN) ! BAD
            forget(MAX) ! BAD
            trades(1) = 0
            forget(2) = 2
            forget(1) = 2
            forget(2) ! BAD
            trades(1) = 1048576
            forget(0) = 1
            trades(1) = 2097151
            count(0) = 0
            """);
        edge(30, "KINDS of a ONE (bits) by which, all else as it is, all is as SEEN. BAD.", "kinds(0) ! BAD\n" + late + """
            kinds(0) = 15
            kinds(1) = 15
            kinds(2) ! BAD
            kinds(-1) ! BAD
            kinds(MIN) ! BAD
            kinds(MAX) ! BAD
            see(20, 1) = 1
            kinds(1) = 2
            see(19, 0) = 2
            kinds(1) = 2
            see(0, 1) = 3
            kinds(1) = 0
            forget(0) = 3
            see(20, 0) = 1
            kinds(1) = 13
            """);
        edge(31, "TRADES (0 to 20; bits) of a ONE by which, all else as it is, all is as SEEN. BAD.", "trades(0) ! BAD\n" + byTwenty + """
            trades(0) = 2097151
            trades(1) = 2097151
            trades(2) ! BAD
            trades(-1) ! BAD
            trades(MIN) ! BAD
            trades(MAX) ! BAD
            see(2, 1) = 1
            trades(1) = 1048576
            forget(0) = 1
            see(2, 0) = 1
            trades(1) = 1048575
            see(0, 0) = 2
            trades(1) = 1048575
            see(0, 1) = 3
            trades(1) = 0
            """);
        edge(31, "TRADES (0 to 20; bits) of a ONE", late + """
            see(20, 1) = 1
            trades(1) = 2095104
            forget(0) = 1
            see(20, 0) = 1
            trades(1) = 2047
            """);
        String ask = "Behind how many QUARTERS (0 to 20) to ask with whom THE COIN is, so that of trades() of a ONE fewest are left at the worst, fewer than now, the first";
        edge(32, ask, "ask(0, 0) ! BAD\n" + late + """
            ask(1, 0) = 20
            ask(1, 1) = 11
            ask(2, 0) ! BAD
            ask(-1, 0) ! BAD
            ask(1, 2) ! BAD
            ask(1, -1) ! BAD
            ask(MIN, MAX) ! BAD
            count(0) = 0
            see(20, 0) = 1
            ask(1, 0) ! NONE
            ask(1, 1) ! NONE
            """);
        edge(32, "NONE: behind none.", """
            // what there is to ask behind 21 is too late
            told "plain 0 5;plain 0 10;gift 20 1 0 20;"
            ask(1, 0) ! NONE
            ask(1, 1) ! NONE
            quarters(1)
            ask(1, 0) = 20
            ask(1, 1) = 11
            """);
        edge(32, "fewer than now", byTwenty + """
            ask(1, 0) = 2
            ask(1, 1) = 20
            see(2, 1) = 1
            ask(1, 0) ! NONE
            see(2, 0) = 2
            ask(1, 0) ! NONE
            ask(1, 1) ! NONE
            """);
    }

    private static void seeds() {
        String drift = "By itself, n QUARTERS (1 to 60) by a seed";
        edge(33, drift, """
            told "plain 99 20;slump 3;"
            drift(0, 1, 0) ! 114
            drift(1, 1, 0) ! 106
            drift(-1, 1, 0) ! 105
            drift(MAX, 1, 0) ! 105
            drift(MIN, 1, 0) ! 114
            drift(0, 60, 0) ! 765
            drift(1, 60, 0) ! 723
            drift(-1, 60, 0) ! 707
            drift(MAX, 60, 0) ! 707
            drift(MIN, 60, 0) ! 765
            drift(MIN, 60, 1) ! 0
            drift(0, 0, 0) ! BAD
            drift(0, 61, 0) ! BAD
            drift(0, -1, 0) ! BAD
            drift(0, MIN, 0) ! BAD
            drift(0, MAX, 0) ! BAD
            drift(0, 1, 2) ! BAD
            drift(0, 1, -1) ! BAD
            rule(1) = 0
            rule(2) = 3
            """);
        edge(33, "with whom THE COIN is then (1)", """
            // seed 0 makes SLUMP 0, by which 0 has 10 and hands it on; seed -1 makes 9
            told "plain 5 10;plain 0 10;slump 3;"
            drift(0, 1, 1) ! 1
            drift(-1, 1, 1) ! 0
            slump(9)
            drift(0, 1, 1) ! 1
            hand(1)
            drift(-1, 1, 1) ! 1
            """);
        edge(33, "STATE: there is nobody.", """
            drift(0, 1, 0) ! STATE
            drift(0, 60, 1) ! STATE
            drift(0, 0, 1) ! BAD
            """);
    }

    private static void images() {
        String setting = "told \"plain 0 10;plain 0 10;gift 2 0 1 1;slump 0;\"\nquarters(1)\nsee(1, 1)\n";
        edge(34, "IMAGE k (0, 1) is PEOPLE, QUARTER, SLUMP, THE COIN, GIFTS, what was SEEN: whether there was one (1, 0). BAD.", setting + """
            keep(2) ! BAD
            keep(-1) ! BAD
            keep(MIN) ! BAD
            keep(MAX) ! BAD
            keep(1) = 0
            count(1) = 1
            keep(1) = 1
            count(1) = 1
            keep(0) = 0
            count(1) = 2
            """);
        edge(34, "IMAGE k (0, 1)", """
            // of nobody, too
            keep(0) = 0
            quarters(3)
            slump(4)
            back(0) = 0
            rule(0) = 0
            rule(1) = 0
            rule(2) = 0
            rule(3) = NONE
            keep(0) = 1
            """);
        edge(35, "All is as IMAGE k: QUARTER. BAD; STATE: there is none.", setting + """
            back(0) ! STATE
            back(1) ! STATE
            back(2) ! BAD
            back(-1) ! BAD
            back(MIN) ! BAD
            back(MAX) ! BAD
            keep(1) = 0
            back(0) ! STATE
            quarters(30)
            alter(0, 0, 2)
            alter(1, 2, 0)
            hand(0)
            drop(0)
            slump(9)
            see(2, 0) = 2
            back(1) = 1
            rule(1) = 1
            rule(2) = 0
            rule(3) = 0
            rule(4) = 5
            rule(6) = 1
            one(0, 0) = 0
            one(1, 2) = 10
            one(0, 3) = 1
            one(1, 3) = 0
            count(0) = 1
            count(1) = 1
            back(1) = 1
            """);
        edge(35, "All is as IMAGE k", """
            // who was SEEN, and behind how many
            told "plain 0 5;plain 0 10;gift 1 1 0 20;"
            see(2, 1) = 1
            see(1, 0) = 2
            keep(0) = 0
            forget(0) = 2
            see(3, 0) = 1
            see(4, 1) = 2
            keep(1) = 0
            forget(0) = 2
            see(0, 1) = 1
            trades(1) = 0
            back(0) = 0
            count(0) = 2
            trades(1) = 1048576
            forget(1) = 2
            trades(1) = 1048576
            back(0) = 0
            count(0) = 2
            """);
        edge(35, "All is as IMAGE k", """
            // what no image is: the tape, sheets, the faults
            told "plain 1 1;"
            keep(0) = 0
            sheet(0, 0, 3) = 1
            read(0, 1, 0, 1) = 0
            feed "?"
            back(0) = 0
            count(2) = 1
            count(3) = 3
            torn() = 3
            text() ! -10
            back(0) = 0
            fault() = 1
            """);
        edge(35, "All is as IMAGE k: QUARTER.", """
            told "plain 1 1;plain 1 1;"
            33 x quarters(30)
            quarters(9)
            keep(0) = 0
            back(0) = 999
            """);
    }

    private static void sheetsAndReads() {
        edge(36, "A SHEET is a new row of CELLS 0: 1. BAD: also n above 40; -10 - 4.", """
            told "plain 9 9;"
            sheet(0, 0, 0) = 1
            count(3) = 0
            sheet(0, 1, 40) = 1
            count(3) = 40
            sheet(0, 1, 41) ! BAD
            sheet(0, 1, MAX) ! BAD
            sheet(0, 1, -1) ! -14
            sheet(0, 1, MIN) ! -14
            sheet(0, 3, 1) ! BAD
            sheet(0, -1, 1) ! BAD
            sheet(4, 0, 1) ! BAD
            sheet(-1, 0, 1) ! BAD
            sheet(4, 0, -1) ! BAD
            sheet(0, 3, -1) ! BAD
            lay(0, 1, 700) = 1
            read(0, 1, 0, 1) = 1
            one(0, 1) = 704
            lay(0, 0, 4) = 1
            read(0, 1, 0, 1) ! -20
            sheet(0, 1, 40) = 1
            read(0, 1, 0, 1) = 1
            one(0, 1) = 4
            """);
        edge(37, "CELL i of a SHEET becomes v (its lowest bits): 1.", """
            told "plain 9 15;"
            // 10 more a quarter
            sheet(0, 0, 2) = 1
            sheet(1, 1, 2) = 1
            sheet(2, 2, 2) = 1
            lay(0, 1, 127) = 1
            read(0, 0, 0, 1) = 1
            one(0, 1) = 137
            lay(0, 1, 128) = 1
            read(0, 0, 0, 1) ! -20
            lay(0, 1, 256) = 1
            read(0, 0, 0, 1) = 1
            one(0, 1) = 10
            lay(0, 1, -1) = 1
            read(0, 0, 0, 1) ! -20
            lay(0, 1, -156) = 1
            read(0, 0, 0, 1) = 1
            one(0, 1) = 110
            lay(1, 1, 66135) = 1
            read(1, 1, 0, 1) = 1
            one(0, 1) = 609
            lay(1, 1, 32768) = 1
            read(1, 1, 0, 1) ! -20
            lay(1, 1, MAX) = 1
            read(1, 1, 0, 1) ! -20
            lay(1, 1, MIN) = 1
            read(1, 1, 0, 1) = 1
            one(0, 1) = 10
            lay(2, 1, 65536) = 1
            read(2, 2, 0, 1) ! -20
            lay(2, 1, MIN) = 1
            read(2, 2, 0, 1) ! -20
            lay(2, 1, 999) = 1
            read(2, 2, 0, 1) = 1
            one(0, 1) = 999
            """);
        edge(37, "BAD: k; -10 less the FAULT: NULL, INDEX.", """
            lay(4, 0, 0) ! BAD
            lay(-1, 0, 0) ! BAD
            lay(MIN, 0, 0) ! BAD
            lay(MAX, 0, 0) ! BAD
            lay(0, 0, 0) ! -11
            lay(0, -1, 0) ! -11
            lay(0, MAX, 0) ! -11
            sheet(0, 0, 0) = 1
            lay(0, 0, 0) ! -12
            sheet(0, 0, 1) = 1
            lay(0, 0, 1) = 1
            lay(0, 1, 1) ! -12
            lay(0, -1, 1) ! -12
            lay(0, MIN, 1) ! -12
            lay(0, MAX, 1) ! -12
            sheet(0, 0, 40) = 1
            lay(0, 39, 1) = 1
            lay(0, 40, 1) ! -12
            """);
        reads();
    }

    private static void reads() {
        String read = "n (0 to 20) times a ONE, MEANS are read of a SHEET taken as of a lane, two CELLS each from CELL f on, one behind another";
        edge(38, read, """
            told "plain 9 9;plain 9 9;"
            sheet(0, 0, 40) = 1
            read(0, 0, 0, 21) ! BAD
            read(0, 0, 0, -1) ! BAD
            read(0, 0, 0, MAX) ! BAD
            read(0, 0, 0, MIN) ! BAD
            read(4, 0, 0, 1) ! BAD
            read(-1, 0, 0, 1) ! BAD
            read(0, 3, 0, 1) ! BAD
            read(0, -1, 0, 1) ! BAD
            read(0, 0, 0, 0) ! 0
            read(0, 0, 0, 20) = 20
            torn() = 0
            rule(1) = 20
            read(0, 0, 38, 1) = 1
            torn() = 0
            """);
        edge(38, "What the machine refuses: those that were whole ahead came (its FAULT is asked by torn()).", """
            told "plain 9 9;plain 9 9;"
            sheet(0, 0, 40) = 1
            read(0, 0, 1, 20) = 19
            torn() = 2
            rule(1) = 19
            read(0, 0, 38, 2) = 1
            torn() = 2
            rule(1) = 20
            read(0, 0, 39, 1) = 0
            torn() = 2
            read(0, 0, 40, 1) = 0
            read(0, 0, -1, 1) = 0
            read(0, 0, -2, 20) = 0
            read(0, 0, MIN, 20) = 0
            read(0, 0, MAX, 20) = 0
            torn() = 2
            rule(1) = 20
            read(0, 1, MAX, 20) = 0
            torn() = 3
            read(3, 1, MAX, 20) = 0
            torn() = 1
            sheet(1, 1, 0) = 1
            read(1, 1, 0, 1) = 0
            torn() = 2
            read(1, 0, 0, 1) = 0
            torn() = 3
            sheet(1, 1, 1) = 1
            read(1, 1, 0, 1) = 0
            torn() = 2
            rule(1) = 20
            """);
        edge(38, "these are his MEANS then, as by alter(), and a QUARTER goes behind each: how many came", """
            // a quarter takes 1 of 1 and brings 4 to 0, until he has 10 and hands it on
            told "plain 9 9;plain 9 9;"
            sheet(0, 1, 6) = 1
            lay(0, 0, 0) = 1
            lay(0, 1, 5) = 1
            lay(0, 2, 1) = 1
            lay(0, 3, 999) = 1
            lay(0, 4, 0) = 1
            lay(0, 5, 6) = 1
            read(0, 1, 0, 1) = 1
            one(0, 1) = 9
            one(1, 1) = 8
            rule(3) = 0
            read(0, 1, 2, 2) = 2
            one(0, 1) = 5
            one(1, 1) = 999
            rule(3) = 0
            rule(1) = 3
            """);
        edge(38, "-20 less i: the i-th, whole, is refused by alter(), or QUARTER is 999: then none came; the first met.", """
            told "plain 9 9;plain 9 9;"
            sheet(0, 2, 40) = 1
            lay(0, 38, 2) = 1
            read(0, 2, 0, 20) ! -39
            read(0, 2, 38, 1) ! -20
            lay(0, 38, -1) = 1
            read(0, 2, 36, 2) ! -21
            lay(0, 38, 1) = 1
            lay(0, 39, 1000) = 1
            read(0, 2, 36, 2) ! -21
            lay(0, 39, -1) = 1
            read(0, 2, 36, 2) ! -21
            lay(0, 39, 999) = 1
            read(0, 2, 36, 2) = 2
            lay(0, 0, 2) = 1
            // the machine finds nothing where alter() refuses ahead of it, and the other way round
            read(0, 2, 0, 20) ! -20
            read(0, 1, 0, 20) = 0
            lay(0, 39, 1000) = 1
            read(0, 2, 39, 1) = 0
            """);
        edge(38, "or QUARTER is 999: then none came", """
            told "plain 9 9;plain 9 9;"
            33 x quarters(30)
            quarters(7)
            sheet(0, 0, 8) = 1
            rule(1) = 997
            read(0, 0, 0, 3) ! -22
            read(0, 0, 4, 3) = 2
            torn() = 2
            rule(1) = 999
            read(0, 0, 0, 1) ! -20
            torn() = 2
            read(0, 0, 0, 0) = 0
            torn() = 0
            read(0, 0, 7, 1) = 0
            torn() = 2
            read(0, 1, 0, 1) = 0
            torn() = 3
            read(1, 1, 0, 1) = 0
            torn() = 1
            """);
        edge(38, "the i-th, whole, is refused by alter()", """
            // nobody is there
            sheet(0, 0, 1) = 1
            read(0, 0, 0, 1) = 0
            torn() = 2
            sheet(0, 0, 2) = 1
            read(0, 0, 0, 1) ! -20
            read(0, 0, 0, 0) = 0
            """);
        edge(39, "The FAULT of the latest read() that came to an end; 0.", """
            torn() = 0
            read(0, 0, 0, 1) = 0
            torn() = 1
            read(4, 0, 0, 1) ! BAD
            read(0, 3, 0, 1) ! BAD
            read(0, 0, 0, 21) ! BAD
            torn() = 1
            sheet(0, 0, 2) = 1
            read(0, 0, 0, 1) ! -20
            torn() = 1
            told "plain 9 9;"
            read(0, 0, 0, 1) = 1
            torn() = 0
            read(0, 0, 0, 2) = 1
            torn() = 2
            read(0, 2, 0, 2) = 0
            torn() = 3
            lay(0, 9, 0) ! -12
            torn() = 3
            """);
    }

    private static void counts() {
        edge(40, "0 SEEN, 1 IMAGES, 2 bytes on THE TAPE, 3 CELLS of SHEET 0 (NONE: nothing), 4 QUARTERS that all KEPT it. BAD.", """
            count(0) = 0
            count(1) = 0
            count(2) = 0
            count(3) ! NONE
            count(4) = 0
            count(5) ! BAD
            count(-1) ! BAD
            count(MIN) ! BAD
            count(MAX) ! BAD
            sheet(1, 0, 5) = 1
            count(3) ! NONE
            sheet(0, 0, 0) = 1
            count(3) = 0
            sheet(0, 0, 40) = 1
            count(3) = 40
            told "plain 0 10;miser 0 10;"
            6 x see(0, 0)
            count(0) = 6
            keep(0) = 0
            keep(1) = 0
            count(1) = 2
            160 x feed(59)
            count(2) = 160
            quarters(3)
            count(4) = 2
            """);
        edge(40, "4 QUARTERS that all KEPT it", """
            told "miser 9 9;plain 0 10;"
            33 x quarters(30)
            quarters(9)
            count(4) = 999
            """);
    }
}
