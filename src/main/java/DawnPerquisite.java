/**
 * The night watchman's dawns: sorts, buyers and slices, the laws of what each buyer bids and earns,
 * what was done day by day, and what can be told of it. Every row is made once, in a constructor:
 * the calls themselves make no objects.
 */
public final class DawnPerquisite {
    public static final int NONE = -1;

    private static final int OTHER = -2;
    private static final int NO_ANSWER_OF_BUYER = -10;
    private static final int NO_ANSWER_OF_GAME = -1000;

    private static final int SORTS = 5;
    private static final int BUYERS = 6;
    private static final int SLICES = 12;
    private static final int ALL_SLICES = (1 << SLICES) - 1;
    private static final int GIVEN = 6;
    private static final int TEXTS = 4;
    private static final int TAPE = 300;
    private static final int FED = 20;
    private static final int CLAUSES = 24;
    private static final int NESTED = 8;
    private static final int STACK = 64;
    private static final int LINES = 25;
    private static final int STEPS = 30;
    private static final int SAYINGS = 8;

    private static final int MOST_PURSE = 999;
    private static final int MOST_FUND = 99999;
    private static final int MOST_DAY = 9999;
    private static final int MOST_BID = 99;
    private static final int MOST_EARNED = 9;
    private static final int MOST_NUMBER = 9999;
    private static final int MOST_VALUE = 1000000;
    private static final int MOST_DAYS = 60;
    private static final int MOST_YEARS = 40;
    private static final int MOST_HOPE = 6;
    private static final int MOST_WAIT = 10;
    private static final int FIRST_X = 457;

    private static final int WAS_SOLD = 0;
    private static final int WAS_GIVEN = 1;
    private static final int WAS_TURNED = 2;
    private static final int WAS_DAWN = 3;
    private static final int WAS_PASSED = 4;

    private static final int BIDS_LAW = 0;
    private static final int EARNS_LAW = 1;

    private final Port now = new Port();
    private final Port kept = new Port();
    private final Text[] texts = new Text[TEXTS];
    private final char[] tape = new char[TAPE];
    private final Reader reader = new Reader();
    private final Sums sums = new Sums();
    private final Wall ahead = new Wall();
    private final int[] bidRow = new int[BUYERS];
    private final int[] dawnRow = new int[BUYERS];
    private final int[] leadRow = new int[SLICES];
    private int tapeLength = 0;
    private int latestFault = NONE;
    private int latestPlace = NONE;

    public DawnPerquisite() {
        for (int text = 0; text < TEXTS; text++) {
            texts[text] = new Text();
        }
    }

    // ---- what is told ----

    public boolean sort(int sort, int odds, int worth) {
        if (!isSort(sort) || !within(odds, 0, 9) || !within(worth, 0, 99)) {
            return false;
        }
        now.odds[sort] = odds;
        now.worth[sort] = worth;
        return true;
    }

    public int buyer(int wants, int from, int to, int purse) {
        boolean fits = within(wants, 0, (1 << SORTS) - 1) && isRun(from, to) && within(purse, 0, MOST_PURSE);
        if (!fits || now.buyers >= BUYERS) {
            return NONE;
        }
        int buyer = now.buyers;
        now.buyers = buyer + 1;
        now.wants[buyer] = wants;
        now.from[buyer] = from;
        now.to[buyer] = to;
        now.told[buyer] = purse;
        now.wall.purses[buyer] = purse;
        now.wall.owned[buyer] = 0;
        return buyer;
    }

    public boolean value(int slice, int value) {
        if (!isSlice(slice) || !within(value, 0, 99)) {
            return false;
        }
        now.values[slice] = value;
        return true;
    }

    public int paid(int buyer, boolean did) {
        if (buyer == NONE) {
            now.paidTold = 0;
            now.paidDid = 0;
            return 0;
        }
        if (!isBuyer(buyer) || (now.paidTold >> buyer & 1) == 1) {
            return OTHER;
        }
        now.paidTold |= 1 << buyer;
        if (did) {
            now.paidDid |= 1 << buyer;
        }
        return Integer.bitCount(now.paidTold);
    }

    public int said(int buyer, int bids) {
        if (buyer == NONE) {
            now.sayings = 0;
            return 0;
        }
        if (!isBuyer(buyer) || !within(bids, 0, MOST_BID) || now.sayings >= SAYINGS) {
            return OTHER;
        }
        now.saidBuyer[now.sayings] = buyer;
        now.saidBids[now.sayings] = bids;
        now.sayings++;
        return now.sayings;
    }

    // ---- the tape and the texts ----

    public int feed(int a, int b, int c, int d, int e) {
        if (tapeLength + FED > TAPE) {
            return NONE;
        }
        putBytes(a);
        putBytes(b);
        putBytes(c);
        putBytes(d);
        putBytes(e);
        return tapeLength;
    }

    private void putBytes(int four) {
        for (int shift = 24; shift >= 0 && tapeLength < TAPE; shift -= 8) {
            tape[tapeLength] = (char) (four >>> shift & 255);
            tapeLength++;
        }
    }

    public int end(int n) {
        if (!within(n, 0, tapeLength)) {
            return NONE;
        }
        tapeLength = n;
        return n;
    }

    public int text() {
        if (now.texts >= TEXTS) {
            return NONE;
        }
        boolean read = reader.reads(tape, tapeLength, texts[now.texts]);
        tapeLength = 0;
        latestFault = reader.fault;
        latestPlace = reader.place;
        if (!read) {
            return NONE;
        }
        now.texts++;
        return now.texts - 1;
    }

    public int fault(int what) {
        switch (what) {
            case 0: return latestFault;
            case 1: return latestPlace;
            default: return NONE;
        }
    }

    public boolean by(int text) {
        if (text != NONE && !isText(text)) {
            return false;
        }
        now.ruling = text;
        return true;
    }

    // ---- what is done ----

    public int sell(int buyer) {
        int price = priceFor(buyer);
        if (price == NONE) {
            return NONE;
        }
        remember();
        sellTo(buyer, price);
        return price;
    }

    public boolean give(int slice) {
        if (!isFree(slice)) {
            return false;
        }
        remember();
        giveAway(slice);
        return true;
    }

    public boolean turn(int buyer) {
        if (!hasSlices(buyer)) {
            return false;
        }
        remember();
        turnAway(buyer);
        return true;
    }

    public int pass(int from, int to) {
        if (!hasSlices(from) || !isBuyer(to) || hasSlices(to)) {
            return NONE;
        }
        Wall wall = now.wall;
        int slices = wall.owned[from];
        if (!wantsSort(to, wall.sort) || (slices & ~now.slicesOf(to)) != 0) {
            return NONE;
        }
        int less = bidsNow(from);
        int more = bidsNow(to);
        int price = (less + more) / 2;
        if (more <= less || wall.purses[to] < price) {
            return NONE;
        }
        remember();
        wall.owned[to] = slices;
        wall.owned[from] = 0;
        wall.purses[to] -= price;
        wall.purses[from] = Math.min(MOST_PURSE, wall.purses[from] + price);
        wall.writeDown(WAS_PASSED, to, price);
        return price;
    }

    public int day(int n) {
        if (!within(n, 1, MOST_DAYS) || now.wall.day + n > MOST_DAY) {
            return NONE;
        }
        passDays(n);
        return now.wall.sort;
    }

    public int played(int text) {
        if (!isText(text)) {
            return OTHER;
        }
        Text told = texts[text];
        for (int clause = 0; clause < told.clauses && clause < CLAUSES; clause++) {
            if (!play(told.kinds[clause], told.firsts[clause], told.seconds[clause])) {
                return clause;
            }
        }
        return NONE;
    }

    private boolean play(int kind, int first, int second) {
        switch (kind) {
            case Token.BUYER: return buyer((1 << SORTS) - 1, first, second, 50) != NONE;
            case Token.SORT: return isSort(first) && sort(first, second, now.worth[first]);
            case Token.SELL: return sell(first) != NONE;
            case Token.GIVE: return give(first);
            case Token.TURN: return turn(first);
            case Token.DAY: return passDays(first);
            default: return true;
        }
    }

    public int years(int seed, int n) {
        if (!within(seed, 0, MOST_NUMBER) || !within(n, 1, MOST_YEARS)) {
            return NONE;
        }
        remember();
        Wall wall = now.wall;
        wall.x = seed * 2 + FIRST_X;
        for (int i = 0; i < n; i++) {
            int x = wall.x;
            wall.x = drawnAnew(x);
            yearly(x);
        }
        return wall.day;
    }

    private void yearly(int x) {
        int chosen = x / 6 % BUYERS;
        switch (x % 6) {
            case 0:
            case 1:
                int price = priceFor(chosen);
                if (price != NONE) {
                    sellTo(chosen, price);
                }
                break;
            case 2:
                if (x / 6 % 3 == 1 && isFree(x % SLICES)) {
                    giveAway(x % SLICES);
                }
                break;
            case 3:
                if (x % 4 == 3 && hasSlices(chosen)) {
                    turnAway(chosen);
                }
                break;
            default:
                if (now.wall.day < MOST_DAY) {
                    dawnComes(now.wall);
                }
                break;
        }
    }

    private void sellTo(int buyer, int price) {
        Wall wall = now.wall;
        wall.owned[buyer] = now.slicesOf(buyer);
        wall.free &= ~now.slicesOf(buyer);
        wall.purses[buyer] -= price;
        wall.fund = Math.min(MOST_FUND, wall.fund + price);
        wall.writeDown(WAS_SOLD, buyer, price);
    }

    private void giveAway(int slice) {
        now.wall.free &= ~(1 << slice);
        now.wall.writeDown(WAS_GIVEN, slice, 0);
    }

    private void turnAway(int buyer) {
        now.wall.free |= now.wall.owned[buyer];
        now.wall.owned[buyer] = 0;
        now.wall.writeDown(WAS_TURNED, buyer, 0);
    }

    /** As many of n DAYS as can pass, each a STEP; whether all did. */
    private boolean passDays(int n) {
        for (int i = 0; i < n; i++) {
            if (now.wall.day >= MOST_DAY) {
                return false;
            }
            remember();
            dawnComes(now.wall);
        }
        return true;
    }

    /** A DAY on a wall, which is a copy when it is only foretold. */
    private void dawnComes(Wall wall) {
        for (int buyer = 0; buyer < now.buyers; buyer++) {
            wall.purses[buyer] = held(wall.purses[buyer] + earns(wall, buyer), 0, MOST_PURSE);
        }
        wall.free = ALL_SLICES;
        for (int buyer = 0; buyer < BUYERS; buyer++) {
            wall.owned[buyer] = 0;
        }
        drawSort(wall);
        wall.day++;
        wall.writeDown(WAS_DAWN, wall.sort, 0);
    }

    private void drawSort(Wall wall) {
        int all = oddsTogether();
        wall.sort = 0;
        if (all <= 0) {
            return;
        }
        int drawn = wall.x % all;
        wall.x = drawnAnew(wall.x);
        int together = 0;
        for (int sort = 0; sort < SORTS; sort++) {
            together += now.odds[sort];
            if (together > drawn) {
                wall.sort = sort;
                return;
            }
        }
    }

    private static int drawnAnew(int x) {
        return (x * 719 + 587) % 31039;
    }

    // ---- steps, the image ----

    private void remember() {
        int slot = (now.eldest + now.steps) % STEPS;
        now.past[slot].become(now.wall);
        now.buyersThen[slot] = now.buyers;
        if (now.steps < STEPS) {
            now.steps++;
        } else {
            now.eldest = (now.eldest + 1) % STEPS;
        }
    }

    public int undo() {
        if (now.steps <= 0) {
            return NONE;
        }
        now.steps--;
        int slot = (now.eldest + now.steps) % STEPS;
        now.wall.become(now.past[slot]);
        for (int buyer = now.buyersThen[slot]; buyer < now.buyers; buyer++) {
            now.wall.purses[buyer] = now.told[buyer];
            now.wall.owned[buyer] = 0;
        }
        return now.steps;
    }

    public int image() {
        kept.become(now);
        return now.wall.day;
    }

    public int back() {
        now.become(kept);
        return now.wall.day;
    }

    // ---- what is there ----

    public int of(int buyer, int what) {
        if (!isBuyer(buyer)) {
            return NO_ANSWER_OF_BUYER;
        }
        switch (what) {
            case 0: return now.wants[buyer];
            case 1: return now.from[buyer];
            case 2: return now.to[buyer];
            case 3: return now.wall.purses[buyer];
            case 4: return bidsNow(buyer);
            case 5: return earns(now.wall, buyer);
            case 6: return Integer.bitCount(now.wall.owned[buyer]);
            default: return NO_ANSWER_OF_BUYER;
        }
    }

    public int ofSort(int sort, int what) {
        if (!isSort(sort)) {
            return NONE;
        }
        switch (what) {
            case 0: return now.odds[sort];
            case 1: return now.worth[sort];
            default: return NONE;
        }
    }

    public int at(int slice) {
        if (!isSlice(slice)) {
            return OTHER;
        }
        if (isFree(slice)) {
            return NONE;
        }
        for (int buyer = 0; buyer < now.buyers; buyer++) {
            if ((now.wall.owned[buyer] >> slice & 1) == 1) {
                return buyer;
            }
        }
        return GIVEN;
    }

    public int is(int what) {
        switch (what) {
            case 0: return now.wall.day;
            case 1: return now.wall.x;
            case 2: return now.wall.fund;
            case 3: return now.wall.sort;
            case 4: return now.wall.free;
            default: return OTHER;
        }
    }

    public int book(int i, int what) {
        Wall wall = now.wall;
        if (i == NONE) {
            return wall.lines;
        }
        if (!within(i, 0, wall.lines - 1)) {
            return OTHER;
        }
        int line = wall.book[i];
        switch (what) {
            case 0: return Wall.dayOf(line);
            case 1: return Wall.kindOf(line);
            case 2: return Wall.whomOf(line);
            case 3: return Wall.priceOf(line);
            default: return OTHER;
        }
    }

    public int ledger(int what) {
        return within(what, WAS_SOLD, WAS_PASSED) ? linesOf(what) : OTHER;
    }

    public int about(int what) {
        switch (what) {
            case 0: return now.buyers;
            case 1: return now.texts;
            case 2: return now.ruling;
            case 3: return now.steps;
            case 4: return Integer.bitCount(now.paidTold);
            case 5: return now.sayings;
            case 6: return tapeLength;
            default: return OTHER;
        }
    }

    // ---- what comes ----

    public int foretold(int n, int what) {
        if (!within(n, 1, MOST_DAYS) || !within(what, 0, 1)) {
            return NONE;
        }
        ahead.become(now.wall);
        for (int i = 0; i < n && ahead.day < MOST_DAY; i++) {
            dawnComes(ahead);
        }
        if (what == 0) {
            return ahead.sort;
        }
        int together = 0;
        for (int buyer = 0; buyer < now.buyers; buyer++) {
            together += ahead.purses[buyer];
        }
        return together;
    }

    public int pack(int sort, boolean many) {
        if (!isSort(sort)) {
            return NONE;
        }
        int set = bestSet(0, sort);
        return many ? set : bidTogether(set);
    }

    public int see(int must, int sort) {
        if (!isSort(sort) || !within(must, 0, (1 << now.buyers) - 1)) {
            return NONE;
        }
        int set = bestSet(must, sort);
        return set == NONE ? NONE : bidTogether(set);
    }

    public long month(int n, boolean low) {
        if (!within(n, 1, MOST_DAYS)) {
            return NONE;
        }
        long together = 0;
        for (int sort = 0; sort < SORTS; sort++) {
            int set = bestSet(0, sort);
            together += (long) likelihood(sort) * bidTogether(set);
        }
        return lowest(n * together, allLikelihood(), low);
    }

    /** The set of most bids on an empty dawn with all of must in it, and their bids in bidRow; NONE: no way. */
    private int bestSet(int must, int sort) {
        for (int buyer = 0; buyer < now.buyers; buyer++) {
            bidRow[buyer] = bidsBy(now.ruling, buyer, sort);
        }
        int best = NONE;
        int most = -1;
        for (int set = 0; set < 1 << now.buyers; set++) {
            if ((set & must) == must && fitTogether(set, sort)) {
                int brought = bidTogether(set);
                if (brought > most) {
                    most = brought;
                    best = set;
                }
            }
        }
        return best;
    }

    private boolean fitTogether(int set, int sort) {
        int taken = 0;
        for (int buyer = 0; buyer < now.buyers; buyer++) {
            if ((set >> buyer & 1) == 1) {
                int slices = now.slicesOf(buyer);
                if (!wantsSort(buyer, sort) || (taken & slices) != 0) {
                    return false;
                }
                taken |= slices;
            }
        }
        return true;
    }

    private int bidTogether(int set) {
        int together = 0;
        for (int buyer = 0; buyer < BUYERS; buyer++) {
            if ((set >> buyer & 1) == 1) {
                together += bidRow[buyer];
            }
        }
        return together;
    }

    public long hope(int n, boolean low) {
        return within(n, 0, MOST_HOPE) ? hoped(n, low) : NONE;
    }

    public boolean keep(int n) {
        if (!within(n, 0, MOST_HOPE)) {
            return false;
        }
        return hoped(n, false) > now.worth[now.wall.sort] * hoped(n, true);
    }

    private long hoped(int n, boolean low) {
        long up = 0;
        long down = 1;
        for (int i = 0; i < n; i++) {
            long sum = 0;
            for (int sort = 0; sort < SORTS; sort++) {
                sum += likelihood(sort) * Math.max(now.worth[sort] * down, up);
            }
            up = sum;
            down *= allLikelihood();
        }
        return lowest(up, down, low);
    }

    public long chance(int sort, boolean low) {
        return isSort(sort) ? lowest(likelihood(sort), allLikelihood(), low) : NONE;
    }

    public int first(int sort) {
        if (!isSort(sort)) {
            return NONE;
        }
        int all = allLikelihood();
        long never = 1;
        long ever = 1;
        for (int days = 1; days <= MOST_WAIT; days++) {
            never *= all - likelihood(sort);
            ever *= all;
            if (2 * never <= ever) {
                return days;
            }
        }
        return NONE;
    }

    // ---- what it was ----

    public int was() {
        int fits = 0;
        for (int sort = 0; sort < SORTS; sort++) {
            if (likelihood(sort) > 0) {
                fits |= 1 << sort;
            }
        }
        for (int buyer = 0; buyer < now.buyers; buyer++) {
            if ((now.paidTold >> buyer & 1) == 1) {
                boolean did = (now.paidDid >> buyer & 1) == 1;
                fits &= did ? now.wants[buyer] : ~now.wants[buyer];
            }
        }
        return fits;
    }

    public int likeliest() {
        int fits = was();
        int best = NONE;
        for (int sort = 0; sort < SORTS; sort++) {
            boolean fit = (fits >> sort & 1) == 1;
            if (fit && (best == NONE || likelihood(sort) > likelihood(best))) {
                best = sort;
            }
        }
        return best;
    }

    public long surest(boolean low) {
        int sort = likeliest();
        return sort == NONE ? lowest(0, 1, low) : lowest(likelihood(sort), likelihoodOf(was()), low);
    }

    public int ask() {
        int fits = was();
        if (Integer.bitCount(fits) < 2) {
            return NONE;
        }
        int best = NONE;
        int least = likelihoodOf(fits) + 1;
        for (int buyer = 0; buyer < now.buyers; buyer++) {
            int wanting = likelihoodOf(fits & now.wants[buyer]);
            int other = likelihoodOf(fits & ~now.wants[buyer]);
            int greater = Math.max(wanting, other);
            if ((now.paidTold >> buyer & 1) == 0 && greater < least) {
                least = greater;
                best = buyer;
            }
        }
        return best;
    }

    // ---- slices and hours ----

    public int auction(int slice, int what) {
        if (!isSlice(slice) || !within(what, 0, 2)) {
            return NONE;
        }
        int winner = NONE;
        int most = -1;
        int next = 0;
        int bidders = 0;
        for (int buyer = 0; buyer < now.buyers; buyer++) {
            if (wantsSort(buyer, now.wall.sort) && wantsSlice(buyer, slice)) {
                int slices = now.longOf(buyer);
                int bid = slices > 0 ? bidsNow(buyer) / slices : 0;
                if (bid > most) {
                    next = Math.max(most, 0);
                    most = bid;
                    winner = buyer;
                } else {
                    next = Math.max(next, bid);
                }
                bidders++;
            }
        }
        if (winner == NONE || what == 0) {
            return winner;
        }
        return what == 1 ? next : bidders;
    }

    /**
     * From the right: where the rightmost FROM that isn't met yet begins, a SLICE must be, there or further
     * right; there it meets the most others, and as a bit it is the lowest.
     */
    public int stab(boolean many) {
        int set = 0;
        int leftmost = SLICES;
        for (int slice = SLICES - 1; slice >= 0; slice--) {
            boolean needed = false;
            for (int buyer = 0; buyer < now.buyers; buyer++) {
                needed |= now.from[buyer] == slice && now.to[buyer] < leftmost;
            }
            if (needed) {
                set |= 1 << slice;
                leftmost = slice;
            }
        }
        return many ? Integer.bitCount(set) : set;
    }

    public int crowd(boolean slice) {
        int most = 0;
        int where = 0;
        for (int i = 0; i < SLICES; i++) {
            int wanting = 0;
            for (int buyer = 0; buyer < now.buyers; buyer++) {
                if (wantsSlice(buyer, i)) {
                    wanting++;
                }
            }
            if (wanting > most) {
                most = wanting;
                where = i;
            }
        }
        return slice ? where : most;
    }

    public int dawns(int buyer) {
        if (!isBuyer(buyer)) {
            return NONE;
        }
        for (int dawn = 0; dawn < BUYERS; dawn++) {
            dawnRow[dawn] = 0;
        }
        for (int from = 0; from < SLICES; from++) {
            for (int other = 0; other < now.buyers; other++) {
                if (now.from[other] == from) {
                    int dawn = lowestDawn(now.slicesOf(other));
                    if (other == buyer) {
                        return dawn;
                    }
                }
            }
        }
        return NONE;
    }

    /** The lowest dawn of dawnRow with room for the slices, which are taken there; six dawns hold six buyers. */
    private int lowestDawn(int slices) {
        for (int dawn = 0; dawn < BUYERS; dawn++) {
            if ((dawnRow[dawn] & slices) == 0) {
                dawnRow[dawn] |= slices;
                return dawn;
            }
        }
        return NONE;
    }

    // ---- games on values ----

    public int ends(int from, int to) {
        return isRun(from, to) ? lead(from, to) : NO_ANSWER_OF_GAME;
    }

    public int take(int from, int to) {
        if (!isRun(from, to)) {
            return NONE;
        }
        int left = now.values[from] - lead(from + 1, to);
        int right = now.values[to] - lead(from, to - 1);
        return left >= right ? 0 : 1;
    }

    /** How much more who begins gets of the slices from .. to; of none 0. */
    private int lead(int from, int to) {
        if (from > to) {
            return 0;
        }
        for (int i = from; i <= to; i++) {
            leadRow[i] = now.values[i];
        }
        for (int more = 1; more <= to - from; more++) {
            for (int i = from; i + more <= to; i++) {
                leadRow[i] = Math.max(now.values[i] - leadRow[i + 1], now.values[i + more] - leadRow[i]);
            }
        }
        return leadRow[from];
    }

    public int best(int from, int to, int what) {
        if (!isRun(from, to) || !within(what, 0, 2)) {
            return NO_ANSWER_OF_GAME;
        }
        int most = now.values[from] - 50;
        int first = from;
        int last = from;
        for (int i = from; i <= to; i++) {
            int together = 0;
            for (int j = i; j <= to; j++) {
                together += now.values[j] - 50;
                if (together > most) {
                    most = together;
                    first = i;
                    last = j;
                }
            }
        }
        if (what == 0) {
            return most;
        }
        return what == 1 ? first : last;
    }

    // ---- by what is told and written ----

    public int whose() {
        int set = 0;
        for (int text = 0; text < now.texts; text++) {
            boolean all = true;
            for (int i = 0; i < now.sayings && i < SAYINGS; i++) {
                all &= bidsBy(text, now.saidBuyer[i], now.wall.sort) == now.saidBids[i];
            }
            if (all) {
                set |= 1 << text;
            }
        }
        return set;
    }

    public int richest() {
        int best = NONE;
        int most = 0;
        for (int buyer = 0; buyer < now.buyers; buyer++) {
            if (now.wall.purses[buyer] > most) {
                most = now.wall.purses[buyer];
                best = buyer;
            }
        }
        return best;
    }

    public int rival(int buyer) {
        if (!isBuyer(buyer)) {
            return NONE;
        }
        int set = 0;
        for (int other = 0; other < now.buyers; other++) {
            boolean sorts = (now.wants[other] & now.wants[buyer]) != 0;
            boolean slices = (now.slicesOf(other) & now.slicesOf(buyer)) != 0;
            if (other != buyer && sorts && slices) {
                set |= 1 << other;
            }
        }
        return set;
    }

    public long learnt(int sort, boolean low) {
        if (!isSort(sort)) {
            return NONE;
        }
        int ofSort = 0;
        for (int i = 0; i < now.wall.lines && i < LINES; i++) {
            if (isDawnOf(now.wall.book[i], sort)) {
                ofSort++;
            }
        }
        return lowest(ofSort + 1, linesOf(WAS_DAWN) + 5, low);
    }

    public int since(int sort) {
        if (!isSort(sort)) {
            return NONE;
        }
        for (int i = now.wall.lines - 1; i >= 0; i--) {
            int line = now.wall.book[i];
            if (isDawnOf(line, sort)) {
                return now.wall.day - Wall.dayOf(line);
            }
        }
        return NONE;
    }

    public int wanted(int sort) {
        if (!isSort(sort)) {
            return NONE;
        }
        int wanting = 0;
        for (int buyer = 0; buyer < now.buyers; buyer++) {
            wanting += now.wants[buyer] >> sort & 1;
        }
        return wanting;
    }

    public int alone(int buyer) {
        if (!isBuyer(buyer)) {
            return NONE;
        }
        int slices = now.slicesOf(buyer);
        for (int other = 0; other < now.buyers; other++) {
            if (other != buyer) {
                slices &= ~now.slicesOf(other);
            }
        }
        return slices;
    }

    public int idle() {
        int slices = now.wall.free;
        for (int buyer = 0; buyer < now.buyers; buyer++) {
            if (wantsSort(buyer, now.wall.sort)) {
                slices &= ~now.slicesOf(buyer);
            }
        }
        return slices;
    }

    public int poor() {
        int set = 0;
        for (int buyer = 0; buyer < now.buyers; buyer++) {
            if (now.wall.purses[buyer] < bidsNow(buyer)) {
                set |= 1 << buyer;
            }
        }
        return set;
    }

    public int room(int slices) {
        if (!within(slices, 1, SLICES)) {
            return NONE;
        }
        for (int from = 0; from + slices <= SLICES; from++) {
            int run = ((1 << slices) - 1) << from;
            if ((now.wall.free & run) == run) {
                return from;
            }
        }
        return NONE;
    }

    public boolean can(int buyer) {
        return priceFor(buyer) != NONE;
    }

    // ---- what the calls above share ----

    /** What a BUYER would be SOLD to for; NONE if it can't be. */
    private int priceFor(int buyer) {
        if (!isBuyer(buyer) || !wantsSort(buyer, now.wall.sort)) {
            return NONE;
        }
        if ((now.slicesOf(buyer) & ~now.wall.free) != 0) {
            return NONE;
        }
        int bids = bidsBy(now.ruling, buyer, now.wall.sort);
        return now.wall.purses[buyer] >= bids ? bids : NONE;
    }

    private int bidsNow(int buyer) {
        return bidsBy(now.ruling, buyer, now.wall.sort);
    }

    private int bidsBy(int text, int buyer, int sort) {
        if (!isText(text) || !texts[text].rules(BIDS_LAW)) {
            return now.worth[sort] * now.longOf(buyer) / SLICES;
        }
        return held(sums.worked(texts[text], BIDS_LAW, now, now.wall, buyer, sort), 0, MOST_BID);
    }

    private int earns(Wall wall, int buyer) {
        if (!isText(now.ruling) || !texts[now.ruling].rules(EARNS_LAW)) {
            return 1;
        }
        int worked = sums.worked(texts[now.ruling], EARNS_LAW, now, wall, buyer, wall.sort);
        return held(worked, -MOST_EARNED, MOST_EARNED);
    }

    private int linesOf(int kind) {
        int many = 0;
        for (int i = 0; i < now.wall.lines && i < LINES; i++) {
            if (Wall.kindOf(now.wall.book[i]) == kind) {
                many++;
            }
        }
        return many;
    }

    private static boolean isDawnOf(int line, int sort) {
        return Wall.kindOf(line) == WAS_DAWN && Wall.whomOf(line) == sort;
    }

    private int oddsTogether() {
        int together = 0;
        for (int sort = 0; sort < SORTS; sort++) {
            together += now.odds[sort];
        }
        return together;
    }

    /** ODDS, but without any the first SORT is sure. */
    private int likelihood(int sort) {
        return sort == 0 && oddsTogether() == 0 ? 1 : now.odds[sort];
    }

    private int likelihoodOf(int sorts) {
        int together = 0;
        for (int sort = 0; sort < SORTS; sort++) {
            if ((sorts >> sort & 1) == 1) {
                together += likelihood(sort);
            }
        }
        return together;
    }

    private int allLikelihood() {
        return Math.max(1, oddsTogether());
    }

    /** The upper or the lower number of up by down in lowest terms. */
    private static long lowest(long up, long down, boolean low) {
        long common = down;
        long rest = up;
        for (int i = 0; i < 200 && rest != 0; i++) {
            long left = common % rest;
            common = rest;
            rest = left;
        }
        if (common == 0) {
            return low ? 1 : 0;
        }
        return low ? down / common : up / common;
    }

    private boolean hasSlices(int buyer) {
        return isBuyer(buyer) && now.wall.owned[buyer] != 0;
    }

    private boolean isFree(int slice) {
        return isSlice(slice) && (now.wall.free >> slice & 1) == 1;
    }

    private boolean wantsSort(int buyer, int sort) {
        return (now.wants[buyer] >> sort & 1) == 1;
    }

    private boolean wantsSlice(int buyer, int slice) {
        return within(slice, now.from[buyer], now.to[buyer]);
    }

    private boolean isBuyer(int buyer) {
        return buyer >= 0 && buyer < now.buyers;
    }

    private boolean isText(int text) {
        return text >= 0 && text < now.texts;
    }

    private static boolean isSort(int sort) {
        return sort >= 0 && sort < SORTS;
    }

    private static boolean isSlice(int slice) {
        return slice >= 0 && slice < SLICES;
    }

    private static boolean isRun(int from, int to) {
        return from >= 0 && from <= to && to < SLICES;
    }

    private static boolean within(int number, int low, int high) {
        return number >= low && number <= high;
    }

    private static int held(int number, int low, int high) {
        return number < low ? low : number > high ? high : number;
    }

    /** What a STEP changes, and taking it back brings again. Slices are held as bits. */
    private static final class Wall {
        final int[] purses = new int[BUYERS];
        final int[] owned = new int[BUYERS];
        final int[] book = new int[LINES];
        int lines = 0;
        int free = ALL_SLICES;
        int sort = 0;
        int fund = 0;
        int day = 0;
        int x = FIRST_X;

        void become(Wall other) {
            System.arraycopy(other.purses, 0, purses, 0, BUYERS);
            System.arraycopy(other.owned, 0, owned, 0, BUYERS);
            System.arraycopy(other.book, 0, book, 0, LINES);
            lines = other.lines;
            free = other.free;
            sort = other.sort;
            fund = other.fund;
            day = other.day;
            x = other.x;
        }

        /** A line is one int, so that keeping thirty books for the STEPS stays cheap: day, kind, whom, price. */
        void writeDown(int kind, int whom, int price) {
            if (lines >= LINES) {
                System.arraycopy(book, 1, book, 0, LINES - 1);
                lines = LINES - 1;
            }
            book[lines] = day << 14 | kind << 11 | whom << 7 | price;
            lines++;
        }

        static int dayOf(int line) {
            return line >> 14;
        }

        static int kindOf(int line) {
            return line >> 11 & 7;
        }

        static int whomOf(int line) {
            return line >> 7 & 15;
        }

        static int priceOf(int line) {
            return line & 127;
        }
    }

    /**
     * What THE IMAGE holds. Of the texts only how many there are: texts below that number are never read
     * over, as the number falls only to THE IMAGE's own.
     */
    private static final class Port {
        final int[] odds = new int[SORTS];
        final int[] worth = new int[SORTS];
        final int[] wants = new int[BUYERS];
        final int[] from = new int[BUYERS];
        final int[] to = new int[BUYERS];
        final int[] told = new int[BUYERS];
        final int[] values = new int[SLICES];
        final int[] saidBuyer = new int[SAYINGS];
        final int[] saidBids = new int[SAYINGS];
        final Wall wall = new Wall();
        final Wall[] past = new Wall[STEPS];
        final int[] buyersThen = new int[STEPS];
        int buyers = 0;
        int texts = 0;
        int ruling = NONE;
        int sayings = 0;
        int paidTold = 0;
        int paidDid = 0;
        int eldest = 0;
        int steps = 0;

        Port() {
            for (int sort = 0; sort < SORTS; sort++) {
                odds[sort] = 1;
                worth[sort] = 10 * sort;
            }
            for (int step = 0; step < STEPS; step++) {
                past[step] = new Wall();
            }
        }

        void become(Port other) {
            System.arraycopy(other.odds, 0, odds, 0, SORTS);
            System.arraycopy(other.worth, 0, worth, 0, SORTS);
            System.arraycopy(other.wants, 0, wants, 0, BUYERS);
            System.arraycopy(other.from, 0, from, 0, BUYERS);
            System.arraycopy(other.to, 0, to, 0, BUYERS);
            System.arraycopy(other.told, 0, told, 0, BUYERS);
            System.arraycopy(other.values, 0, values, 0, SLICES);
            System.arraycopy(other.saidBuyer, 0, saidBuyer, 0, SAYINGS);
            System.arraycopy(other.saidBids, 0, saidBids, 0, SAYINGS);
            System.arraycopy(other.buyersThen, 0, buyersThen, 0, STEPS);
            wall.become(other.wall);
            for (int step = 0; step < STEPS; step++) {
                past[step].become(other.past[step]);
            }
            buyers = other.buyers;
            texts = other.texts;
            ruling = other.ruling;
            sayings = other.sayings;
            paidTold = other.paidTold;
            paidDid = other.paidDid;
            eldest = other.eldest;
            steps = other.steps;
        }

        int longOf(int buyer) {
            return to[buyer] - from[buyer] + 1;
        }

        int slicesOf(int buyer) {
            return (2 << to[buyer]) - (1 << from[buyer]);
        }
    }

    /**
     * A text that was read: its clauses, and its laws as one row of operations on a stack. A token makes
     * one operation at most, so a row as long as the tape is long enough.
     */
    private static final class Text {
        final int[] kinds = new int[CLAUSES];
        final int[] firsts = new int[CLAUSES];
        final int[] seconds = new int[CLAUSES];
        final int[] operations = new int[TAPE];
        final int[] operands = new int[TAPE];
        final int[] starts = new int[2];
        final int[] stops = new int[2];
        int clauses = 0;
        int size = 0;

        void clear() {
            clauses = 0;
            size = 0;
            for (int law = 0; law < 2; law++) {
                starts[law] = 0;
                stops[law] = 0;
            }
        }

        /** A law has one operation at least, so an empty one isn't there. */
        boolean rules(int law) {
            return stops[law] > starts[law];
        }

        int emit(int operation, int operand) {
            if (size < TAPE) {
                operations[size] = operation;
                operands[size] = operand;
                size++;
            }
            return size - 1;
        }

        void jumpHere(int jump) {
            if (jump >= 0 && jump < TAPE) {
                operands[jump] = size;
            }
        }

        void add(int kind, int first, int second) {
            if (clauses < CLAUSES) {
                kinds[clauses] = kind;
                firsts[clauses] = first;
                seconds[clauses] = second;
                clauses++;
            }
        }
    }

    /** The kinds of tokens, which are those of operations too: words by their place in WORDS, then the rest. */
    private static final class Token {
        static final String WORDS = "bids earnsbuyerto   sort by   sell give turn day  worthpurseif   then else end  or   and  not  long own  free wantshas  ";
        static final int LETTERS = 5;
        static final int MANY_WORDS = 24;

        static final int BIDS = 0;
        static final int EARNS = 1;
        static final int BUYER = 2;
        static final int TO = 3;
        static final int SORT = 4;
        static final int BY = 5;
        static final int SELL = 6;
        static final int GIVE = 7;
        static final int TURN = 8;
        static final int DAY = 9;
        static final int WORTH = 10;
        static final int PURSE = 11;
        static final int IF = 12;
        static final int THEN = 13;
        static final int ELSE = 14;
        static final int END = 15;
        static final int OR = 16;
        static final int AND = 17;
        static final int NOT = 18;
        static final int LONG = 19;
        static final int OWN = 20;
        static final int FREE = 21;
        static final int WANTS = 22;
        static final int HAS = 23;
        static final int NUMBER = 24;
        static final int NOT_MORE = 25;
        static final int NOT_LESS = 26;
        static final int LESS = 27;
        static final int MORE = 28;
        static final int EQUAL = 29;
        static final int UNLIKE = 30;
        static final int PLUS = 31;
        static final int MINUS = 32;
        static final int TIMES = 33;
        static final int OVER = 34;
        static final int OPEN = 35;
        static final int CLOSE = 36;
        static final int SEMICOLON = 37;
        static final int NEGATE = 38;
        static final int ALIEN = 39;
        static final int OUT = 40;

        static int ofWord(char[] tape, int from, int to) {
            int length = to - from;
            for (int word = 0; word < MANY_WORDS && length <= LETTERS; word++) {
                boolean same = true;
                for (int i = 0; i < LETTERS && same; i++) {
                    char letter = i < length ? tape[from + i] : ' ';
                    same = letter == WORDS.charAt(word * LETTERS + i);
                }
                if (same) {
                    return word;
                }
            }
            return ALIEN;
        }

        static int ofSign(char sign, boolean equals) {
            switch (sign) {
                case '<': return equals ? NOT_MORE : LESS;
                case '>': return equals ? NOT_LESS : MORE;
                case '=': return EQUAL;
                case '#': return UNLIKE;
                case '+': return PLUS;
                case '-': return MINUS;
                case '*': return TIMES;
                case '/': return OVER;
                case '(': return OPEN;
                case ')': return CLOSE;
                case ';': return SEMICOLON;
                default: return ALIEN;
            }
        }

        static boolean isLetter(char sign) {
            return sign >= 'a' && sign <= 'z' || sign >= 'A' && sign <= 'Z';
        }

        static boolean isDigit(char sign) {
            return sign >= '0' && sign <= '9';
        }

        static boolean isComparison(int kind) {
            return kind >= NOT_MORE && kind <= UNLIKE;
        }
    }

    /**
     * Reads a tape into a text, token by token; each part tells whether it could be read. The first part
     * that can't be notes the fault at the token that it stands at, and nothing is read behind it.
     */
    private static final class Reader {
        private static final int STANDS_WRONG = 1;
        private static final int WRONG_NUMBER = 2;
        private static final int TOO_DEEP = 3;
        private static final int SECOND_LAW = 4;
        private static final int WRONG_NAME = 5;
        private static final int TOO_MANY = 6;

        private final int[] kinds = new int[TAPE + 1];
        private final int[] numbers = new int[TAPE + 1];
        private final int[] places = new int[TAPE + 1];
        private int count = 0;
        private int next = 0;
        private int law = BIDS_LAW;
        private Text text = new Text();
        int fault = 0;
        int place = NONE;

        boolean reads(char[] tape, int length, Text into) {
            if (tape == null || into == null || length < 0 || length > tape.length || length > TAPE) {
                return false;
            }
            text = into;
            text.clear();
            next = 0;
            fault = 0;
            place = NONE;
            split(tape, length);
            for (int i = 0; i <= CLAUSES && kinds[next] != Token.OUT; i++) {
                if (!clause()) {
                    return false;
                }
            }
            return true;
        }

        private void split(char[] tape, int length) {
            count = 0;
            int at = 0;
            for (int turn = 0; turn < TAPE && at < length; turn++) {
                char sign = tape[at];
                if (Token.isLetter(sign)) {
                    at = splitWord(tape, at, length);
                } else if (Token.isDigit(sign)) {
                    at = splitNumber(tape, at, length);
                } else if (sign == 32 || sign == 10) {
                    at++;
                } else {
                    boolean equals = at + 1 < length && tape[at + 1] == '=';
                    int kind = Token.ofSign(sign, equals);
                    put(kind, 0, at);
                    at += kind == Token.NOT_MORE || kind == Token.NOT_LESS ? 2 : 1;
                }
            }
            put(Token.OUT, 0, length);
        }

        private int splitWord(char[] tape, int from, int length) {
            int to = from;
            while (to < length && Token.isLetter(tape[to])) {
                to++;
            }
            put(Token.ofWord(tape, from, to), 0, from);
            return to;
        }

        private int splitNumber(char[] tape, int from, int length) {
            int number = 0;
            int to = from;
            while (to < length && Token.isDigit(tape[to])) {
                number = Math.min(MOST_NUMBER + 1, number * 10 + (tape[to] - '0'));
                to++;
            }
            put(Token.NUMBER, number, from);
            return to;
        }

        private void put(int kind, int number, int at) {
            if (count <= TAPE) {
                kinds[count] = kind;
                numbers[count] = number;
                places[count] = at;
                count++;
            }
        }

        private boolean clause() {
            int kind = kinds[next];
            int many = text.clauses;
            if (kind < Token.BIDS || kind > Token.DAY || kind == Token.TO || kind == Token.BY) {
                return fails(STANDS_WRONG);
            }
            law = kind == Token.EARNS ? EARNS_LAW : BIDS_LAW;
            if (kind <= Token.EARNS && text.rules(law)) {
                return fails(SECOND_LAW);
            }
            if (many >= CLAUSES) {
                return fails(TOO_MANY);
            }
            next++;
            switch (kind) {
                case Token.BIDS:
                case Token.EARNS: return lawClause(kind);
                case Token.BUYER: return twoNumbers(kind, SLICES - 1, Token.TO, SLICES - 1);
                case Token.SORT: return twoNumbers(kind, SORTS - 1, Token.BY, 9);
                case Token.GIVE: return oneNumber(kind, 0, SLICES - 1);
                case Token.DAY: return oneNumber(kind, 1, MOST_DAYS);
                default: return oneNumber(kind, 0, BUYERS - 1);
            }
        }

        private boolean lawClause(int kind) {
            int start = text.size;
            if (!sum(0) || !takes(Token.SEMICOLON)) {
                return false;
            }
            text.starts[law] = start;
            text.stops[law] = text.size;
            text.add(kind, 0, 0);
            return true;
        }

        private boolean oneNumber(int kind, int low, int high) {
            int number = number(low, high);
            if (number == NONE || !takes(Token.SEMICOLON)) {
                return false;
            }
            text.add(kind, number, 0);
            return true;
        }

        private boolean twoNumbers(int kind, int most, int between, int mostSecond) {
            int number = number(0, most);
            if (number == NONE || !takes(between)) {
                return false;
            }
            int second = number(kind == Token.BUYER ? number : 0, mostSecond);
            if (second == NONE || !takes(Token.SEMICOLON)) {
                return false;
            }
            text.add(kind, number, second);
            return true;
        }

        private int number(int low, int high) {
            int number = numbers[next];
            if (kinds[next] != Token.NUMBER) {
                fails(STANDS_WRONG);
                return NONE;
            }
            if (!within(number, low, high)) {
                fails(WRONG_NUMBER);
                return NONE;
            }
            next++;
            return number;
        }

        private boolean sum(int depth) {
            if (!product(depth)) {
                return false;
            }
            for (int i = 0; i < TAPE && (kinds[next] == Token.PLUS || kinds[next] == Token.MINUS); i++) {
                int sign = kinds[next];
                next++;
                if (!product(depth)) {
                    return false;
                }
                text.emit(sign, 0);
            }
            return true;
        }

        private boolean product(int depth) {
            if (!one(depth)) {
                return false;
            }
            for (int i = 0; i < TAPE && (kinds[next] == Token.TIMES || kinds[next] == Token.OVER); i++) {
                int sign = kinds[next];
                next++;
                if (!one(depth)) {
                    return false;
                }
                text.emit(sign, 0);
            }
            return true;
        }

        private boolean one(int depth) {
            int kind = kinds[next];
            switch (kind) {
                case Token.NUMBER:
                    int number = number(0, MOST_NUMBER);
                    text.emit(kind, number);
                    return number != NONE;
                case Token.DAY:
                case Token.BUYER:
                case Token.SORT:
                case Token.LONG:
                case Token.OWN:
                case Token.FREE: return name(kind, true);
                case Token.WANTS: return name(kind, law == BIDS_LAW);
                case Token.HAS: return name(kind, law == EARNS_LAW);
                case Token.OPEN: return opens(depth) && sum(depth + 1) && takes(Token.CLOSE);
                case Token.MINUS: return opens(depth) && oneUnder(Token.NEGATE, depth + 1);
                case Token.WORTH:
                case Token.PURSE: return opens(depth) && oneUnder(kind, depth + 1);
                case Token.IF: return opens(depth) && choice(depth + 1);
                default: return fails(STANDS_WRONG);
            }
        }

        private boolean oneUnder(int operation, int depth) {
            if (!one(depth)) {
                return false;
            }
            text.emit(operation, 0);
            return true;
        }

        private boolean choice(int depth) {
            if (!either(depth) || !takes(Token.THEN)) {
                return false;
            }
            int unlessSo = text.emit(Token.THEN, 0);
            if (!sum(depth) || !takes(Token.ELSE)) {
                return false;
            }
            int behind = text.emit(Token.ELSE, 0);
            text.jumpHere(unlessSo);
            if (!sum(depth) || !takes(Token.END)) {
                return false;
            }
            text.jumpHere(behind);
            return true;
        }

        private boolean either(int depth) {
            if (!both(depth)) {
                return false;
            }
            for (int i = 0; i < TAPE && kinds[next] == Token.OR; i++) {
                next++;
                if (!both(depth)) {
                    return false;
                }
                text.emit(Token.OR, 0);
            }
            return true;
        }

        private boolean both(int depth) {
            if (!asking(depth)) {
                return false;
            }
            for (int i = 0; i < TAPE && kinds[next] == Token.AND; i++) {
                next++;
                if (!asking(depth)) {
                    return false;
                }
                text.emit(Token.AND, 0);
            }
            return true;
        }

        private boolean asking(int depth) {
            if (kinds[next] == Token.NOT) {
                if (!opens(depth) || !asking(depth + 1)) {
                    return false;
                }
                text.emit(Token.NOT, 0);
                return true;
            }
            if (!sum(depth)) {
                return false;
            }
            int comparison = kinds[next];
            if (!Token.isComparison(comparison)) {
                return fails(STANDS_WRONG);
            }
            next++;
            if (!sum(depth)) {
                return false;
            }
            text.emit(comparison, 0);
            return true;
        }

        private boolean name(int kind, boolean ofClause) {
            if (!ofClause) {
                return fails(WRONG_NAME);
            }
            next++;
            text.emit(kind, 0);
            return true;
        }

        private boolean opens(int depth) {
            if (depth >= NESTED) {
                return fails(TOO_DEEP);
            }
            next++;
            return true;
        }

        private boolean takes(int kind) {
            if (kinds[next] != kind) {
                return fails(STANDS_WRONG);
            }
            next++;
            return true;
        }

        private boolean fails(int number) {
            fault = number;
            place = places[next];
            return false;
        }
    }

    /** Works a law out on a stack; eight parts open around one another need no more than five places each. */
    private static final class Sums {
        private final int[] stack = new int[STACK];

        int worked(Text text, int law, Port port, Wall wall, int buyer, int sort) {
            int top = 0;
            int at = text.starts[law];
            for (int i = 0; i < TAPE && at < text.stops[law] && at < TAPE; i++) {
                int operation = text.operations[at];
                int operand = text.operands[at];
                at++;
                if (operation == Token.ELSE) {
                    at = operand;
                } else if (operation == Token.THEN) {
                    top = Math.max(0, top - 1);
                    at = stack[top] == 0 ? operand : at;
                } else if (operation >= Token.NOT_MORE && operation < Token.NEGATE || isLink(operation)) {
                    if (top < 2) {
                        return 0;
                    }
                    top--;
                    stack[top - 1] = limited(ofTwo(operation, stack[top - 1], stack[top]));
                } else if (isOnOne(operation)) {
                    if (top < 1) {
                        return 0;
                    }
                    stack[top - 1] = ofOne(operation, stack[top - 1], port, wall);
                } else if (top < STACK) {
                    stack[top] = operation == Token.NUMBER ? operand : named(operation, port, wall, buyer, sort);
                    top++;
                }
            }
            return stack[0];
        }

        private static boolean isLink(int operation) {
            return operation == Token.OR || operation == Token.AND;
        }

        private static boolean isOnOne(int operation) {
            switch (operation) {
                case Token.NEGATE:
                case Token.NOT:
                case Token.WORTH:
                case Token.PURSE: return true;
                default: return false;
            }
        }

        private static int limited(long number) {
            if (number > MOST_VALUE) {
                return MOST_VALUE;
            }
            return number < -MOST_VALUE ? -MOST_VALUE : (int) number;
        }

        private static long ofTwo(int operation, long left, long right) {
            switch (operation) {
                case Token.PLUS: return left + right;
                case Token.MINUS: return left - right;
                case Token.TIMES: return left * right;
                case Token.OVER: return right == 0 ? 0 : left / right;
                case Token.NOT_MORE: return left <= right ? 1 : 0;
                case Token.NOT_LESS: return left >= right ? 1 : 0;
                case Token.LESS: return left < right ? 1 : 0;
                case Token.MORE: return left > right ? 1 : 0;
                case Token.EQUAL: return left == right ? 1 : 0;
                case Token.UNLIKE: return left != right ? 1 : 0;
                case Token.OR: return left | right;
                case Token.AND: return left & right;
                default: return 0;
            }
        }

        private static int ofOne(int operation, int number, Port port, Wall wall) {
            switch (operation) {
                case Token.NEGATE: return -number;
                case Token.NOT: return 1 - number;
                case Token.WORTH: return number >= 0 && number < SORTS ? port.worth[number] : 0;
                case Token.PURSE: return number >= 0 && number < port.buyers ? wall.purses[number] : 0;
                default: return 0;
            }
        }

        private static int named(int name, Port port, Wall wall, int buyer, int sort) {
            switch (name) {
                case Token.DAY: return wall.day;
                case Token.BUYER: return buyer;
                case Token.SORT: return sort;
                case Token.LONG: return port.longOf(buyer);
                case Token.OWN: return wall.purses[buyer];
                case Token.FREE: return Integer.bitCount(wall.free);
                case Token.WANTS: return port.wants[buyer] >> sort & 1;
                case Token.HAS: return Integer.bitCount(wall.owned[buyer]);
                default: return 0;
            }
        }
    }
}
