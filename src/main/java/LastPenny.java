/**
 * The old coin that goes round among people in a ring, with the questions that may be asked of it.
 * The document (DOC.md) says as numbered promises what each call answers.
 */
public final class LastPenny {
    public static final int BAD = -1, STATE = -2, FULL = -3, NONE = -4;

    private static final int PLAIN = 0, MISER = 1, FOUNDER = 2, LUCKY = 3;
    private static final int MOST_PEOPLE = 5, MOST_GIFTS = 4, MOST_SEEN = 6, GIFT_CELLS = 4;
    private static final int MOST_MEANS = 999, MOST_TRADE = 20, MOST_SLUMP = 9, MOST_GIVEN = 20;
    private static final int LAST_GIFT_QUARTER = 20, LAST_QUARTER = 999, FAR = 60, NEAR = 20;
    private static final int MOST_ALMS = 99, LONGEST_ODDS = 8;
    private static final int TAPE_BYTES = 160, SHEETS = 4, MOST_CELLS = 40, IMAGES = 2;
    private static final int MISSING = 1, INDEX = 2, CAST = 3, SIZE = 4;

    private final Tape tape = new Tape();
    private final World now = new World();
    /** Questions run on this copy, so that they make nothing and change nothing. */
    private final World trial = new World();
    /** What a call may have to go back to, or what a text tells until it is taken. */
    private final World aside = new World();
    private final World[] images = new World[IMAGES];
    private final boolean[] imageThere = new boolean[IMAGES];
    private final Sheet[] sheets = new Sheet[SHEETS];
    private int tornFault;
    /** With whom the coin is behind 0 to 20 quarters of the trial. */
    private final int[] holders = new int[NEAR + 1];
    /** How many trades put the coin there: a row of people for each of 0 to 20 quarters. */
    private final int[] tally = new int[(NEAR + 1) * MOST_PEOPLE];

    public LastPenny() {
        for (int k = 0; k < IMAGES; k++) {
            images[k] = new World();
        }
        for (int k = 0; k < SHEETS; k++) {
            sheets[k] = new Sheet();
        }
    }

    // ---- the text

    public int feed(int c) {
        if (!within(c, 0, 127)) {
            return BAD;
        }
        return tape.addByte(c) ? tape.length : FULL;
    }

    public int end(int n) {
        if (!within(n, 0, tape.length)) {
            return BAD;
        }
        int had = tape.length;
        tape.length = n;
        return had;
    }

    public int text() {
        aside.clear();
        int lines = tape.tell(aside);
        tape.length = 0;
        if (tape.fault != 0) {
            return -10 - tape.faultPlace;
        }
        now.become(aside);
        for (int k = 0; k < IMAGES; k++) {
            imageThere[k] = false;
        }
        return lines;
    }

    public int fault() {
        return tape.fault;
    }

    public int rule(int what) {
        switch (what) {
            case 0: return now.people;
            case 1: return now.quarter;
            case 2: return now.slumpNow;
            case 3: return now.holderOrNone();
            case 4: return now.meansOfAll();
            case 5: return now.ruinedBits();
            case 6: return now.gifts;
            default: return BAD;
        }
    }

    public int one(int p, int what) {
        if (!now.has(p)) {
            return BAD;
        }
        switch (what) {
            case 0: return now.kindOf[p];
            case 1: return now.meansOf[p];
            case 2: return now.tradeOf[p];
            case 3: return now.keptOf[p];
            case 4: return now.bringsTo(p);
            default: return BAD;
        }
    }

    public int gift(int i, int what) {
        if (!within(i, 0, now.gifts - 1) || !within(what, 0, GIFT_CELLS - 1)) {
            return BAD;
        }
        return now.giftCells[i * GIFT_CELLS + what];
    }

    // ---- what is changed

    public int alter(int p, int what, int v) {
        if (!now.has(p)) {
            return BAD;
        }
        switch (what) {
            case 0: return exchange(now.kindOf, p, v, LUCKY);
            case 1: return exchange(now.meansOf, p, v, MOST_MEANS);
            case 2: return exchange(now.tradeOf, p, v, MOST_TRADE);
            default: return BAD;
        }
    }

    public int slump(int v) {
        if (!within(v, 0, MOST_SLUMP)) {
            return BAD;
        }
        int was = now.slumpNow;
        now.slumpNow = v;
        return was;
    }

    public int hand(int p) {
        if (!now.has(p)) {
            return BAD;
        }
        int was = now.holder;
        now.holder = p;
        return was;
    }

    public int give(int quarter, int p, int r, int n) {
        boolean two = now.has(p) && now.has(r) && p != r;
        if (!within(quarter, 0, LAST_GIFT_QUARTER) || !two || !within(n, 1, MOST_GIVEN)) {
            return BAD;
        }
        return now.addGift(quarter, p, r, n) ? now.gifts : FULL;
    }

    public int drop(int n) {
        if (!within(n, 0, now.gifts)) {
            return BAD;
        }
        int had = now.gifts;
        now.gifts = n;
        return had;
    }

    // ---- quarters

    public int quarters(int n) {
        if (!within(n, 0, 30)) {
            return BAD;
        }
        if (now.quarter + n > LAST_QUARTER) {
            return FULL;
        }
        now.pass(n);
        return now.holderOrNone();
    }

    public int runs(int n, int what) {
        if (!within(n, 0, FAR) || !within(what, 0, 4)) {
            return BAD;
        }
        trial.become(now);
        int handedOn = 0;
        int firstRuin = NONE;
        for (int q = 1; q <= n; q++) {
            if (trial.step()) {
                handedOn++;
            }
            if (firstRuin == NONE && trial.ruinedBits() != 0) {
                firstRuin = q;
            }
        }
        switch (what) {
            case 0: return trial.meansOfAll();
            case 1: return trial.ruinedBits();
            case 2: return handedOn;
            case 3: return firstRuin;
            default: return trial.holderOrNone();
        }
    }

    public int ahead(int p, int n, int what) {
        if (!now.has(p) || !within(n, 0, FAR) || !within(what, 0, 1)) {
            return BAD;
        }
        trial.become(now);
        int ruins = 0;
        for (int q = 1; q <= n; q++) {
            trial.step();
            if (trial.isRuined(p)) {
                ruins++;
            }
        }
        return what == 0 ? trial.meansOf[p] : ruins;
    }

    public int soonest(int p) {
        if (!now.has(p)) {
            return BAD;
        }
        trial.become(now);
        return trial.comesTo(p);
    }

    public long share(int p, int n, int what) {
        if (!now.has(p) || !within(n, 1, FAR) || !within(what, 0, 1)) {
            return BAD;
        }
        trial.become(now);
        int times = 0;
        for (int q = 1; q <= n; q++) {
            trial.step();
            if (trial.holder == p) {
                times++;
            }
        }
        return ofFraction(times, n, what);
    }

    public int round() {
        if (now.people == 0) {
            return NONE;
        }
        trial.become(now);
        int all = (1 << now.people) - 1;
        int had = 1 << trial.holder;
        for (int q = 1; q <= FAR; q++) {
            trial.step();
            had |= 1 << trial.holder;
            if (had == all) {
                return q;
            }
        }
        return NONE;
    }

    // ---- what is best

    public int trade(int p, int what) {
        if (!now.has(p) || !within(what, 0, 1)) {
            return BAD;
        }
        int best = NONE;
        int least = FAR + 1;
        for (int t = 0; t <= MOST_TRADE; t++) {
            trial.become(now);
            trial.tradeOf[p] = t;
            int comes = trial.comesTo(p);
            if (comes != NONE && comes < least) {
                best = t;
                least = comes;
            }
        }
        return best == NONE || what == 0 ? best : least;
    }

    public int keeper(int n, int what) {
        if (!within(n, 0, FAR) || !within(what, 0, 1)) {
            return BAD;
        }
        int best = NONE;
        int most = NONE;
        for (int p = 0; p < now.people; p++) {
            trial.become(now);
            trial.holder = p;
            trial.pass(n);
            if (trial.meansOfAll() > most) {
                best = p;
                most = trial.meansOfAll();
            }
        }
        return what == 0 ? best : most;
    }

    public int kind(int p, int n, int what) {
        if (!now.has(p) || !within(n, 0, FAR) || !within(what, 0, 1)) {
            return BAD;
        }
        int best = PLAIN;
        int most = -1;
        for (int k = PLAIN; k <= LUCKY; k++) {
            trial.become(now);
            trial.kindOf[p] = k;
            trial.pass(n);
            if (trial.meansOf[p] > most) {
                best = k;
                most = trial.meansOf[p];
            }
        }
        return what == 0 ? best : most;
    }

    public int alms(int p, int n) {
        if (!now.has(p) || !within(n, 0, FAR)) {
            return BAD;
        }
        for (int more = 0; more <= MOST_ALMS; more++) {
            trial.become(now);
            trial.meansOf[p] = bounded(now.meansOf[p] + more);
            if (trial.staysUp(p, n)) {
                return more;
            }
        }
        return NONE;
    }

    public int help(int n, int what) {
        if (!within(n, 0, NEAR) || !within(what, 0, 1)) {
            return BAD;
        }
        if (now.gifts >= MOST_GIFTS) {
            return FULL;
        }
        int best = NONE;
        int fewest = ruinedBehind(n);
        for (int p = 0; p < now.people; p++) {
            for (int r = 0; r < now.people; r++) {
                for (int much = 1; much <= MOST_GIVEN && r != p; much++) {
                    int ruined = ruinedByGift(p, r, much, n);
                    if (ruined < fewest) {
                        best = 1000 * p + 100 * r + much;
                        fewest = ruined;
                    }
                }
            }
        }
        return best == NONE || what == 0 ? best : fewest;
    }

    public int swap(int n, int what) {
        if (!within(n, 0, FAR) || !within(what, 0, 1)) {
            return BAD;
        }
        int best = NONE;
        int fewest = ruinedBehind(n);
        for (int p = 0; p < now.people; p++) {
            for (int r = p + 1; r < now.people; r++) {
                int ruined = ruinedBySwap(p, r, n);
                if (ruined < fewest) {
                    best = 10 * p + r;
                    fewest = ruined;
                }
            }
        }
        return best == NONE || what == 0 ? best : fewest;
    }

    // ---- slumps by odds

    public long luck(int v, int p, int n, int what) {
        return byOdds(v, p, n, what, false);
    }

    public long mean(int v, int p, int n, int what) {
        return byOdds(v, p, n, what, true);
    }

    // ---- from who had it when

    public int see(int n, int p) {
        if (!within(n, 0, NEAR) || !now.has(p)) {
            return BAD;
        }
        return now.addSeen(n, p) ? now.seen : FULL;
    }

    public int forget(int n) {
        if (!within(n, 0, now.seen)) {
            return BAD;
        }
        int had = now.seen;
        now.seen = n;
        return had;
    }

    public int kinds(int p) {
        if (!now.has(p)) {
            return BAD;
        }
        int bits = 0;
        for (int k = PLAIN; k <= LUCKY; k++) {
            trial.become(now);
            trial.kindOf[p] = k;
            trial.trace(holders);
            if (now.isAsSeen(holders)) {
                bits |= 1 << k;
            }
        }
        return bits;
    }

    public int trades(int p) {
        if (!now.has(p)) {
            return BAD;
        }
        int bits = 0;
        for (int t = 0; t <= MOST_TRADE; t++) {
            if (fitsByTrade(p, t)) {
                bits |= 1 << t;
            }
        }
        return bits;
    }

    public int ask(int p, int what) {
        if (!now.has(p) || !within(what, 0, 1)) {
            return BAD;
        }
        int best = NONE;
        int fewest = tallyTrades(p);
        for (int q = 0; q <= NEAR; q++) {
            int worst = mostInRow(q);
            if (worst < fewest) {
                best = q;
                fewest = worst;
            }
        }
        return best == NONE || what == 0 ? best : fewest;
    }

    // ---- by a seed

    public int drift(int seed, int n, int what) {
        if (!within(n, 1, FAR) || !within(what, 0, 1)) {
            return BAD;
        }
        if (now.people == 0) {
            return STATE;
        }
        trial.become(now);
        int state = seed;
        for (int q = 1; q <= n; q++) {
            state = state * 1103515245 + 12345;
            trial.slumpNow = ((state >>> 16) & 32767) % 10;
            trial.step();
        }
        return what == 0 ? trial.meansOfAll() : trial.holder;
    }

    // ---- images, sheets

    public int keep(int k) {
        if (!within(k, 0, IMAGES - 1)) {
            return BAD;
        }
        int was = imageThere[k] ? 1 : 0;
        images[k].become(now);
        imageThere[k] = true;
        return was;
    }

    public int back(int k) {
        if (!within(k, 0, IMAGES - 1)) {
            return BAD;
        }
        if (!imageThere[k]) {
            return STATE;
        }
        now.become(images[k]);
        return now.quarter;
    }

    public int sheet(int k, int lane, int n) {
        if (!within(k, 0, SHEETS - 1) || !within(lane, 0, 2) || n > MOST_CELLS) {
            return BAD;
        }
        if (n < 0) {
            return -10 - SIZE;
        }
        sheets[k].renew(lane, n);
        return 1;
    }

    public int lay(int k, int i, int v) {
        if (!within(k, 0, SHEETS - 1)) {
            return BAD;
        }
        int found = sheets[k].faultAt(i);
        if (found != 0) {
            return -10 - found;
        }
        sheets[k].setCell(i, v);
        return 1;
    }

    public int read(int k, int lane, int f, int n) {
        if (!within(k, 0, SHEETS - 1) || !within(lane, 0, 2) || !within(n, 0, 20)) {
            return BAD;
        }
        aside.become(now);
        Sheet from = sheets[k];
        int came = 0;
        int found = 0;
        for (int i = 0; i < n && found == 0; i++) {
            int cell = f + 2 * i;
            found = from.faultOfPair(lane, cell);
            if (found == 0) {
                if (!takeMeans(from.cells[cell], from.cells[cell + 1])) {
                    now.become(aside);
                    return -20 - i;
                }
                came++;
            }
        }
        tornFault = found;
        return came;
    }

    public int torn() {
        return tornFault;
    }

    public int count(int what) {
        switch (what) {
            case 0: return now.seen;
            case 1: return (imageThere[0] ? 1 : 0) + (imageThere[1] ? 1 : 0);
            case 2: return tape.length;
            case 3: return sheets[0].lane == Sheet.NOTHING ? NONE : sheets[0].size;
            case 4: return now.keptByAll();
            default: return BAD;
        }
    }

    // ---- what the calls share

    private static boolean within(int v, int low, int high) {
        return v >= low && v <= high;
    }

    private static int bounded(int means) {
        return means < 0 ? 0 : means > MOST_MEANS ? MOST_MEANS : means;
    }

    private static int exchange(int[] row, int p, int v, int high) {
        if (!within(v, 0, high)) {
            return BAD;
        }
        int was = row[p];
        row[p] = v;
        return was;
    }

    /** A part of a fraction in lowest terms, the denominator above 0: what 0 above, 1 below. */
    private static long ofFraction(long above, long below, int what) {
        long divisor = commonDivisor(above, below);
        if (divisor == 0) {
            return what;
        }
        return (what == 0 ? above : below) / divisor;
    }

    private static long commonDivisor(long a, long b) {
        long x = a;
        long y = b;
        for (int i = 0; i < 200 && y != 0; i++) {
            long rest = x % y;
            x = y;
            y = rest;
        }
        return x;
    }

    private int ruinedBehind(int n) {
        trial.become(now);
        trial.pass(n);
        return trial.ruinedCount();
    }

    private int ruinedByGift(int p, int r, int much, int n) {
        trial.become(now);
        trial.addGift(now.quarter, p, r, much);
        trial.pass(n);
        return trial.ruinedCount();
    }

    private int ruinedBySwap(int p, int r, int n) {
        trial.become(now);
        trial.tradeOf[p] = now.tradeOf[r];
        trial.tradeOf[r] = now.tradeOf[p];
        trial.pass(n);
        return trial.ruinedCount();
    }

    /** Goes through every way in which n quarters may be slumps or not, each with its weight out of 10 to the n. */
    private long byOdds(int v, int p, int n, int what, boolean ofMeans) {
        boolean bad = !within(v, 0, 10) || !now.has(p) || !within(n, 0, LONGEST_ODDS) || !within(what, 0, 1);
        if (bad) {
            return BAD;
        }
        long sum = 0;
        for (int way = 0; way < 1 << n; way++) {
            long weight = weightOfWay(way, v, n);
            if (weight != 0) {
                goWay(way, n);
                sum += weight * (ofMeans ? trial.meansOf[p] : trial.holder == p ? 1 : 0);
            }
        }
        long all = 1;
        for (int q = 0; q < n; q++) {
            all *= 10;
        }
        return ofFraction(sum, all, what);
    }

    private static long weightOfWay(int way, int v, int n) {
        long weight = 1;
        for (int q = 0; q < n; q++) {
            weight *= (way >> q & 1) == 1 ? v : 10 - v;
        }
        return weight;
    }

    private void goWay(int way, int n) {
        trial.become(now);
        for (int q = 0; q < n; q++) {
            trial.slumpNow = (way >> q & 1) == 1 ? MOST_SLUMP : now.slumpNow;
            trial.step();
        }
    }

    /** Leaves in the row of holders with whom the coin is by that trade. */
    private boolean fitsByTrade(int p, int t) {
        trial.become(now);
        trial.tradeOf[p] = t;
        trial.trace(holders);
        return now.isAsSeen(holders);
    }

    /** How many trades fit what was seen; the tally has where each of them puts the coin. */
    private int tallyTrades(int p) {
        for (int i = 0; i < tally.length; i++) {
            tally[i] = 0;
        }
        int fitting = 0;
        for (int t = 0; t <= MOST_TRADE; t++) {
            if (fitsByTrade(p, t)) {
                fitting++;
                for (int q = 0; q <= NEAR; q++) {
                    tally[q * MOST_PEOPLE + holders[q]]++;
                }
            }
        }
        return fitting;
    }

    private int mostInRow(int q) {
        int most = 0;
        for (int p = 0; p < MOST_PEOPLE; p++) {
            most = Math.max(most, tally[q * MOST_PEOPLE + p]);
        }
        return most;
    }

    private boolean takeMeans(int p, int means) {
        if (now.quarter >= LAST_QUARTER || alter(p, 1, means) == BAD) {
            return false;
        }
        now.step();
        return true;
    }

    /** All that an image keeps, and how a quarter changes it. */
    private static final class World {
        int people;
        int quarter;
        int slumpNow;
        /** With whom the coin is; 0 while nobody is there. */
        int holder;
        int gifts;
        int seen;
        final int[] kindOf = new int[MOST_PEOPLE];
        final int[] meansOf = new int[MOST_PEOPLE];
        final int[] tradeOf = new int[MOST_PEOPLE];
        final int[] keptOf = new int[MOST_PEOPLE];
        /** Four cells a gift: quarter, who gives, to whom, how much. */
        final int[] giftCells = new int[MOST_GIFTS * GIFT_CELLS];
        final int[] seenBehind = new int[MOST_SEEN];
        final int[] seenWith = new int[MOST_SEEN];

        void clear() {
            people = 0;
            quarter = 0;
            slumpNow = 0;
            holder = 0;
            gifts = 0;
            seen = 0;
        }

        void become(World other) {
            people = other.people;
            quarter = other.quarter;
            slumpNow = other.slumpNow;
            holder = other.holder;
            gifts = other.gifts;
            seen = other.seen;
            System.arraycopy(other.kindOf, 0, kindOf, 0, people);
            System.arraycopy(other.meansOf, 0, meansOf, 0, people);
            System.arraycopy(other.tradeOf, 0, tradeOf, 0, people);
            System.arraycopy(other.keptOf, 0, keptOf, 0, people);
            System.arraycopy(other.giftCells, 0, giftCells, 0, gifts * GIFT_CELLS);
            System.arraycopy(other.seenBehind, 0, seenBehind, 0, seen);
            System.arraycopy(other.seenWith, 0, seenWith, 0, seen);
        }

        boolean has(int p) {
            return within(p, 0, people - 1);
        }

        void addOne(int kindCode, int means, int tradeCode) {
            if (people < MOST_PEOPLE) {
                kindOf[people] = kindCode;
                meansOf[people] = means;
                tradeOf[people] = tradeCode;
                keptOf[people] = 0;
                people++;
            }
        }

        boolean addGift(int when, int from, int to, int much) {
            if (gifts >= MOST_GIFTS) {
                return false;
            }
            int cell = gifts * GIFT_CELLS;
            giftCells[cell] = when;
            giftCells[cell + 1] = from;
            giftCells[cell + 2] = to;
            giftCells[cell + 3] = much;
            gifts++;
            return true;
        }

        boolean addSeen(int behind, int with) {
            if (seen >= MOST_SEEN) {
                return false;
            }
            seenBehind[seen] = behind;
            seenWith[seen] = with;
            seen++;
            return true;
        }

        /** Whether the coin and the gifts are with people who are there. */
        boolean isWhole(boolean coinTold) {
            if (coinTold && !has(holder)) {
                return false;
            }
            for (int i = 0; i < gifts; i++) {
                if (!has(giftCells[i * GIFT_CELLS + 1]) || !has(giftCells[i * GIFT_CELLS + 2])) {
                    return false;
                }
            }
            return true;
        }

        int holderOrNone() {
            return people == 0 ? NONE : holder;
        }

        int meansOfAll() {
            int sum = 0;
            for (int p = 0; p < people; p++) {
                sum += meansOf[p];
            }
            return sum;
        }

        int keptByAll() {
            int sum = 0;
            for (int p = 0; p < people; p++) {
                sum += keptOf[p];
            }
            return sum;
        }

        boolean isRuined(int p) {
            return meansOf[p] == 0;
        }

        int ruinedBits() {
            int bits = 0;
            for (int p = 0; p < people; p++) {
                if (isRuined(p)) {
                    bits |= 1 << p;
                }
            }
            return bits;
        }

        int ruinedCount() {
            return Integer.bitCount(ruinedBits());
        }

        int tradeBrings(int p) {
            int plain = tradeOf[p] - 10 - slumpNow;
            switch (kindOf[p]) {
                case MISER: return plain + 1;
                case FOUNDER: return (plain + 1) / 2;
                default: return plain;
            }
        }

        int coinBrings(int p) {
            switch (kindOf[p]) {
                case MISER: return 0;
                case FOUNDER: return 15;
                case LUCKY: return 5 + 2 * poorerThan(p);
                default: return 5;
            }
        }

        int bringsTo(int p) {
            return tradeBrings(p) + (p == holder ? coinBrings(p) : 0);
        }

        private int poorerThan(int p) {
            int poorer = 0;
            for (int r = 0; r < people; r++) {
                if (meansOf[r] < meansOf[p]) {
                    poorer++;
                }
            }
            return poorer;
        }

        void pass(int n) {
            for (int q = 0; q < n; q++) {
                step();
            }
        }

        /** A quarter goes: whether the coin was handed on in it. */
        boolean step() {
            makeGifts();
            // The coin looks at the means of all ahead of any earnings, so it is asked first.
            int byCoin = people > 0 ? coinBrings(holder) : 0;
            earn(byCoin);
            boolean handedOn = people > 1 && handsOn();
            if (handedOn) {
                holder = poorestBehindHolder();
            } else if (people > 0) {
                keptOf[holder]++;
            }
            quarter++;
            return handedOn;
        }

        private void makeGifts() {
            for (int i = 0; i < gifts; i++) {
                int cell = i * GIFT_CELLS;
                if (giftCells[cell] == quarter) {
                    int from = giftCells[cell + 1];
                    int to = giftCells[cell + 2];
                    int much = Math.min(meansOf[from], giftCells[cell + 3]);
                    meansOf[from] -= much;
                    meansOf[to] = bounded(meansOf[to] + much);
                }
            }
        }

        private void earn(int byCoin) {
            for (int p = 0; p < people; p++) {
                int brings = tradeBrings(p) + (p == holder ? byCoin : 0);
                meansOf[p] = bounded(meansOf[p] + brings);
            }
        }

        private boolean handsOn() {
            return kindOf[holder] == MISER ? isRuined(holder) : meansOf[holder] >= 10;
        }

        private int poorestBehindHolder() {
            int poorest = holder;
            for (int i = 1; i < people; i++) {
                int p = (holder + i) % people;
                if (poorest == holder || meansOf[p] < meansOf[poorest]) {
                    poorest = p;
                }
            }
            return poorest;
        }

        /** Behind how many quarters from here the coin is first with a one. */
        int comesTo(int p) {
            for (int q = 0; q <= FAR; q++) {
                if (holder == p) {
                    return q;
                }
                step();
            }
            return NONE;
        }

        boolean staysUp(int p, int n) {
            for (int q = 0; q < n; q++) {
                step();
                if (isRuined(p)) {
                    return false;
                }
            }
            return true;
        }

        void trace(int[] row) {
            for (int q = 0; q < row.length; q++) {
                row[q] = holder;
                step();
            }
        }

        boolean isAsSeen(int[] row) {
            for (int i = 0; i < seen; i++) {
                if (row[seenBehind[i]] != seenWith[i]) {
                    return false;
                }
            }
            return true;
        }
    }

    /** The bytes of a text, and the reader that finds their first fault. */
    private static final class Tape {
        private static final int END = 0, NAME = 1, NUMBER = 2, STOP = 3;
        private static final int LINE_SLUMP = 4, LINE_COIN = 5, LINE_GIFT = 6, LINES = 7;

        final byte[] bytes = new byte[TAPE_BYTES];
        int length;
        int fault;
        int faultPlace;
        private int at;
        private int token;
        private int start;
        private boolean slumpTold;
        private boolean coinTold;

        boolean addByte(int c) {
            if (length >= TAPE_BYTES) {
                return false;
            }
            bytes[length] = (byte) c;
            length++;
            return true;
        }

        /** Puts what the bytes tell into an empty world: how many lines; the fault is 0 if all was taken. */
        int tell(World world) {
            fault = 0;
            faultPlace = 0;
            at = 0;
            slumpTold = false;
            coinTold = false;
            int lines = 0;
            next();
            for (int i = 0; i < TAPE_BYTES && fault == 0 && token != END; i++) {
                tellLine(world);
                lines++;
                next();
            }
            if (fault == 0 && !world.isWhole(coinTold)) {
                refuse(6, length);
            }
            return lines;
        }

        private void tellLine(World world) {
            int line = token == NAME ? lineNamed() : LINES;
            if (line == LINES) {
                refuse(2, start);
            } else if (line == LINE_SLUMP) {
                tellSlump(world);
            } else if (line == LINE_COIN) {
                tellCoin(world);
            } else if (line == LINE_GIFT) {
                tellGift(world);
            } else {
                tellOne(world, line);
            }
            takeStop();
        }

        private void tellOne(World world, int kindCode) {
            if (world.people >= MOST_PEOPLE) {
                refuse(5, start);
            }
            int means = takeNumber(0, 99);
            int tradeCode = takeNumber(0, MOST_TRADE);
            world.addOne(kindCode, means, tradeCode);
        }

        private void tellSlump(World world) {
            if (slumpTold) {
                refuse(4, start);
            }
            slumpTold = true;
            world.slumpNow = takeNumber(0, MOST_SLUMP);
        }

        private void tellCoin(World world) {
            if (coinTold) {
                refuse(4, start);
            }
            coinTold = true;
            world.holder = takeNumber(0, MOST_PEOPLE - 1);
        }

        private void tellGift(World world) {
            if (world.gifts >= MOST_GIFTS) {
                refuse(5, start);
            }
            int when = takeNumber(0, LAST_GIFT_QUARTER);
            int from = takeNumber(0, MOST_PEOPLE - 1);
            int to = takeNumber(0, MOST_PEOPLE - 1);
            if (from == to) {
                refuse(3, start);
            }
            world.addGift(when, from, to, takeNumber(1, MOST_GIVEN));
        }

        /** The first fault alone counts: behind it nothing more is read, and what was told is thrown away. */
        private void refuse(int which, int place) {
            if (fault == 0) {
                fault = which;
                faultPlace = place;
            }
        }

        private int takeNumber(int low, int high) {
            next();
            if (token != NUMBER) {
                refuse(2, start);
                return low;
            }
            int value = numberRead();
            if (!within(value, low, high)) {
                refuse(3, start);
            }
            return value;
        }

        private void takeStop() {
            next();
            if (token != STOP) {
                refuse(2, start);
            }
        }

        /** Reads one token more, unless there was a fault. */
        private void next() {
            if (fault != 0) {
                return;
            }
            start = endOfRun(at, ' ', ' ');
            int nameEnd = endOfRun(start, 'a', 'z');
            int numberEnd = endOfRun(start, '0', '9');
            if (start >= length) {
                token = END;
                at = start;
            } else if (nameEnd > start) {
                token = NAME;
                at = nameEnd;
            } else if (numberEnd > start) {
                token = NUMBER;
                at = numberEnd;
                if (at - start > 2) {
                    refuse(1, start);
                }
            } else {
                token = STOP;
                at = start + 1;
                if (bytes[start] != ';') {
                    refuse(1, start);
                }
            }
        }

        /** Where the bytes from low to high end that begin at a place. */
        private int endOfRun(int from, int low, int high) {
            int i = from;
            while (i < length && bytes[i] >= low && bytes[i] <= high) {
                i++;
            }
            return i;
        }

        private int numberRead() {
            int value = 0;
            for (int i = start; i < at; i++) {
                value = value * 10 + bytes[i] - '0';
            }
            return value;
        }

        /** The first four lines tell ones, numbered as their kinds are. */
        private int lineNamed() {
            for (int line = 0; line < LINES; line++) {
                if (isNamed(nameOf(line))) {
                    return line;
                }
            }
            return LINES;
        }

        private static String nameOf(int line) {
            switch (line) {
                case PLAIN: return "plain";
                case MISER: return "miser";
                case FOUNDER: return "founder";
                case LUCKY: return "lucky";
                case LINE_SLUMP: return "slump";
                case LINE_COIN: return "coin";
                default: return "gift";
            }
        }

        private boolean isNamed(String name) {
            if (at - start != name.length()) {
                return false;
            }
            for (int i = 0; i < name.length(); i++) {
                if (bytes[start + i] != name.charAt(i)) {
                    return false;
                }
            }
            return true;
        }
    }

    /** A row of cells of one lane, or nothing. */
    private static final class Sheet {
        static final int NOTHING = -1;

        int lane = NOTHING;
        int size;
        final int[] cells = new int[MOST_CELLS];

        void renew(int newLane, int newSize) {
            lane = newLane;
            size = newSize;
            for (int i = 0; i < MOST_CELLS; i++) {
                cells[i] = 0;
            }
        }

        /** What the machine would find with cell i: 0 if nothing. */
        int faultAt(int i) {
            if (lane == NOTHING) {
                return MISSING;
            }
            return within(i, 0, size - 1) ? 0 : INDEX;
        }

        /** What the machine would find first with cells i and the next, the sheet taken as of a lane. */
        int faultOfPair(int asLane, int i) {
            if (lane != NOTHING && lane != asLane) {
                return CAST;
            }
            int first = faultAt(i);
            return first != 0 ? first : faultAt(i + 1);
        }

        void setCell(int i, int v) {
            cells[i] = lane == 0 ? (byte) v : lane == 1 ? (short) v : v;
        }
    }
}
