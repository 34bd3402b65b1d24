import java.util.Arrays;

/** A trolley that pulls to the left, the row it stands in, and the law by which it drags. */
public final class PullsToTheLeft {
    public static final int NONE = -1, BAD = -2, STATE = -3, FULL = -4;
    public static final long NO = -4611686018427387904L;

    private static final int NO_SUCH = -5, NO_OF = -6, NO_VALUE = -7;
    private static final int NOTHING_THERE = -11, OUTSIDE = -12, OTHER_SORT = -13, SIZE_BELOW = -14;
    private static final int NOWHERE = -1000000;
    private static final int ALLOWED = 0;
    // No FARTHEST, COST or BAD of all that are met comes near it.
    private static final int ABOVE_ALL = 1000000;

    private static final int WHEELS = 4, PLACES = 8, TENTHS = 30, HANDINGS = 100;
    private static final int MOST_HAND = 9, MOST_LOAD = 40, MOST_MORE = 9, MOST_PACE = 9;
    private static final int MOST_WIDE = 99, MOST_KICKS = 9, MOST_BAD = 99;
    private static final int MOST_LOOKS = 8, MOST_AWAY = 5, MOST_SEED = 99999, MOST_SEEDS = 30;
    private static final int TAPE = 160, TEXTS = 6, SHEETS = 4, CELLS = 40, PAIRS = 20;
    private static final int TROLLEYS = 8, GUESTS = 24;

    private static final int PLAIN = 0, STICKING = 1, TURNING = 2, THREADED = 3, FLUTTERING = 4;
    private static final int LIFTED = 5, KINDS = 6, A_LOAD = 6;
    private static final int[] KIND_ABOVE = {PLAIN, PLAIN, PLAIN, STICKING, TURNING, PLAIN};

    private static final int MISSING = -1, BYTES = 0, SHORTS = 1, INTS = 2;

    private static final int DRAGS = 0, HOLDS = 1, BUMPS = 2, PARTS = 3;
    private static final int LOAD = 0, HAND = 1, PACE = 2, TENTH = 3, MORE = 4, WHEEL = 5, NAMES = 6;
    private static final String FIRST_LAW = "drags 2 + load * 2 ; holds hand ; bumps 9 ;";

    private final Cart cart = new Cart();
    private final Cart thought = new Cart();
    private final Cart keptCart = new Cart();
    private final Row row = new Row();
    private final Row thoughtRow = new Row();
    private final Row keptRow = new Row();
    private final Reader reader = new Reader();
    private final Text firstText;
    private final Text[] texts = new Text[TEXTS];
    private int textCount = 1;
    private int law = 0;
    private int keptLaw = 0;
    private boolean imageKept = false;
    private final Ride ride;
    private final Sheet[] sheets = new Sheet[SHEETS];

    public PullsToTheLeft() {
        for (int i = 0; i < FIRST_LAW.length(); i++) {
            reader.append(FIRST_LAW.charAt(i));
        }
        reader.findFault();
        firstText = new Text(reader);
        reader.empty();
        texts[0] = firstText;
        ride = new Ride(cart, firstText);
        for (int s = 0; s < SHEETS; s++) {
            sheets[s] = new Sheet();
        }
    }

    // ---- the law

    public int count(int what) {
        switch (what) {
            case 0: return row.size;
            case 1: return textCount;
            case 2: return law;
            case 3: return reader.size;
            case 4: return cart.wholeLoad();
            default: return BAD;
        }
    }

    public int feed(int n, int a, int b, int c, int d, int e) {
        if (!within(n, 1, 5) || !isByte(a) || !isByte(b) || !isByte(c) || !isByte(d) || !isByte(e)) {
            return BAD;
        }
        if (reader.size + n > TAPE) {
            return FULL;
        }
        reader.append(a);
        if (n > 1) reader.append(b);
        if (n > 2) reader.append(c);
        if (n > 3) reader.append(d);
        if (n > 4) reader.append(e);
        return reader.size;
    }

    public int text() {
        if (textCount >= TEXTS) {
            return FULL;
        }
        int fault = reader.findFault();
        if (fault >= 0) {
            reader.empty();
            return -100 - fault;
        }
        texts[textCount] = new Text(reader);
        reader.empty();
        textCount++;
        return textCount - 1;
    }

    public int force(int t) {
        if (!within(t, 0, textCount - 1)) {
            return BAD;
        }
        int was = law;
        law = t;
        return was;
    }

    public int asks(int part, int loadHand, int tenth, int w) {
        if (!within(part, 0, PARTS - 1) || !within(loadHand, 0, 9999)
                || !isTenth(tenth) || !isWheel(w)) {
            return BAD;
        }
        Text text = theLaw();
        text.name(LOAD, loadHand / 100);
        text.name(HAND, loadHand % 100);
        text.name(PACE, cart.pace);
        text.name(TENTH, tenth);
        text.name(MORE, cart.more[w]);
        text.name(WHEEL, w);
        return text.says(part);
    }

    // ---- wheels, loads

    public int wheel(int w, int kind, int more) {
        if (!isWheel(w)) {
            return NO_SUCH;
        }
        if (!within(kind, 0, KINDS - 1) || !within(more, 0, MOST_MORE)) {
            return NO_VALUE;
        }
        int was = 10 * cart.kind[w] + cart.more[w];
        cart.kind[w] = kind;
        cart.more[w] = more;
        cart.kicked[w] = 0;
        return was;
    }

    public int kick(int w) {
        if (!isWheel(w)) {
            return NO_SUCH;
        }
        if (cart.kicked[w] >= MOST_KICKS) {
            return STATE;
        }
        cart.kicked[w]++;
        return cart.loudness(w);
    }

    public int told(int w, int what) {
        if (!isWheel(w)) {
            return NO_SUCH;
        }
        switch (what) {
            case 0: return cart.kind[w];
            case 1: return cart.more[w];
            case 2: return cart.kicked[w];
            case 3: return cart.loudness(w);
            case 4: return cart.loadOver(w);
            default: return NO_VALUE;
        }
    }

    public int set(int what, int of, int v) {
        int was = look(what, of);
        // What look finds is never below 0, so this is a refusal.
        if (was < 0) {
            return was;
        }
        if (!within(v, leastOf(what), mostOf(what))) {
            return NO_VALUE;
        }
        switch (what) {
            case 0: cart.load[of] = v; break;
            case 1: cart.hand[0] = v; break;
            case 2: cart.hand[1] = v; break;
            case 3: cart.pace = v; break;
            default: cart.wide[of] = v; break;
        }
        return was;
    }

    public int look(int what, int of) {
        switch (what) {
            case 0: return isPlace(of) ? cart.load[of] : NO_OF;
            case 1: return cart.hand[0];
            case 2: return cart.hand[1];
            case 3: return cart.pace;
            case 4: return isTenth(of) ? cart.wide[of] : NO_OF;
            default: return NO_SUCH;
        }
    }

    private static int leastOf(int what) {
        return what >= 3 ? 1 : 0;
    }

    private static int mostOf(int what) {
        switch (what) {
            case 0: return MOST_LOAD;
            case 3: return MOST_PACE;
            case 4: return MOST_WIDE;
            default: return MOST_HAND;
        }
    }

    // ---- where it goes

    public int at(int tenth, int what) {
        if (!isTenth(tenth) || !within(what, 0, 1)) {
            return NOWHERE;
        }
        ride.start(cart, theLaw());
        for (int t = 0; t <= tenth; t++) {
            ride.step();
        }
        return what == 0 ? ride.pull : ride.aside;
    }

    public int roll(int what) {
        if (!within(what, 0, 4)) {
            return NOWHERE;
        }
        ride.goAll(cart, theLaw());
        switch (what) {
            case 0: return ride.holding;
            case 1: return ride.bumps;
            case 2: return ride.bumpBits;
            case 3: return ride.farthest;
            default: return ride.aside;
        }
    }

    private int farthestOf(Cart by) {
        ride.goAll(by, theLaw());
        return ride.farthest;
    }

    private int costOf(Cart by) {
        ride.goAll(by, theLaw());
        return ride.holding + ride.bumps;
    }

    // ---- how to hold it, where to put what

    public int straight(int what) {
        return leastHands(what, false);
    }

    public int hold(int what) {
        return leastHands(what, true);
    }

    private int leastHands(int what, boolean byCost) {
        if (!within(what, 0, 1)) {
            return BAD;
        }
        int least = ABOVE_ALL;
        int hands = 0;
        thought.become(cart);
        for (int h = 0; h < HANDINGS; h++) {
            thought.takeHands(h);
            int now = byCost ? costOf(thought) : farthestOf(thought);
            if (now < least) {
                least = now;
                hands = h;
            }
        }
        return what == 0 ? hands : least;
    }

    public int exact() {
        thought.become(cart);
        for (int h = 0; h < HANDINGS; h++) {
            thought.takeHands(h);
            if (neverPulls()) {
                return h;
            }
        }
        return NONE;
    }

    private boolean neverPulls() {
        ride.start(thought, theLaw());
        for (int t = 0; t < TENTHS; t++) {
            ride.step();
            if (ride.pull != 0) {
                return false;
            }
        }
        return true;
    }

    public int put(int much, int what) {
        if (!within(much, 1, MOST_LOAD) || !within(what, 0, 1)) {
            return BAD;
        }
        int least = ABOVE_ALL;
        int place = NONE;
        thought.become(cart);
        for (int p = 0; p < PLACES; p++) {
            if (cart.load[p] + much > MOST_LOAD) continue;
            thought.load[p] = cart.load[p] + much;
            int now = farthestOf(thought);
            thought.load[p] = cart.load[p];
            if (now < least) {
                least = now;
                place = p;
            }
        }
        return what == 0 || place == NONE ? place : least;
    }

    public int swap(int what) {
        if (!within(what, 0, 1)) {
            return BAD;
        }
        int least = farthestOf(cart);
        int pair = NONE;
        thought.become(cart);
        for (int p = 0; p < PLACES; p++) {
            for (int q = p + 1; q < PLACES; q++) {
                thought.exchange(p, q);
                int now = farthestOf(thought);
                thought.exchange(p, q);
                if (now < least) {
                    least = now;
                    pair = 10 * p + q;
                }
            }
        }
        return what == 0 ? pair : least;
    }

    public long lay(int what) {
        if (!within(what, 0, 1)) {
            return NO;
        }
        thought.become(cart);
        Arrays.fill(thought.load, 0);
        int lifted = 0;
        int filled = 0;
        long digits = 0;
        for (int i = 0; i < PLACES; i++) {
            int from = heaviestBut(lifted);
            int to = freePlaceFor(cart.load[from], filled);
            lifted |= 1 << from;
            filled |= 1 << to;
            thought.load[to] = cart.load[from];
            digits = 10 * digits + to + 1;
        }
        return what == 0 ? digits : farthestOf(thought);
    }

    private int heaviestBut(int lifted) {
        int heaviest = 0;
        int most = -1;
        for (int p = 0; p < PLACES; p++) {
            if ((lifted >> p & 1) == 0 && cart.load[p] > most) {
                most = cart.load[p];
                heaviest = p;
            }
        }
        return heaviest;
    }

    private int freePlaceFor(int load, int filled) {
        int least = ABOVE_ALL;
        int place = 0;
        for (int p = 0; p < PLACES; p++) {
            if ((filled >> p & 1) == 1) continue;
            thought.load[p] = load;
            int now = farthestOf(thought);
            thought.load[p] = 0;
            if (now < least) {
                least = now;
                place = p;
            }
        }
        return place;
    }

    public int quick() {
        thought.become(cart);
        for (int pace = MOST_PACE; pace >= 1; pace--) {
            thought.pace = pace;
            ride.goAll(thought, theLaw());
            if (ride.bumpBits == 0) {
                return pace;
            }
        }
        return NONE;
    }

    public int flutters() {
        thought.become(cart);
        for (int pace = 1; pace <= MOST_PACE; pace++) {
            thought.pace = pace;
            if (turnsRound()) {
                return pace;
            }
        }
        return NONE;
    }

    private boolean turnsRound() {
        ride.start(thought, theLaw());
        int before = 0;
        for (int t = 0; t < TENTHS; t++) {
            ride.step();
            if (before > 0 && ride.pull < 0) {
                return true;
            }
            before = ride.pull;
        }
        return false;
    }

    public int mend(int what) {
        if (!within(what, 0, 1)) {
            return BAD;
        }
        int least = costOf(cart);
        int mended = NONE;
        for (int w = 0; w < WHEELS; w++) {
            thought.become(cart);
            thought.makePlain(w);
            int now = costOf(thought);
            if (now < least) {
                least = now;
                mended = w;
            }
        }
        return what == 0 ? mended : least;
    }

    public int change(int costs) {
        if (!within(costs, 0, 9999)) {
            return BAD;
        }
        int tenthCosts = costs / 100;
        int changeCosts = costs % 100;
        int rest = costOf(cart);
        int last = NONE;
        ride.start(cart, theLaw());
        for (int t = 0; t < TENTHS; t++) {
            if (rest > tenthCosts * (TENTHS - t) + changeCosts) {
                last = t;
            }
            ride.step();
            rest -= ride.cost;
        }
        // Behind the last tenth nothing costs anything, so 30 itself is never above.
        return last;
    }

    public int turned() {
        thought.become(cart);
        thought.exchange(0, 2);
        thought.exchange(1, 3);
        thought.exchange(4, 6);
        thought.exchange(5, 7);
        int other = farthestOf(thought);
        return other - farthestOf(cart);
    }

    // ---- told films

    public int judge(int s) {
        int refusal = refusalOfFilm(s);
        return refusal != ALLOWED ? refusal : firstOtherwise(cart, theLaw(), sheets[s]);
    }

    public int kinds(int s, int w, int sort) {
        int refusal = refusalOfFilm(s);
        if (refusal != ALLOWED) {
            return refusal;
        }
        if (!isWheel(w)) {
            return NO_SUCH;
        }
        if (!within(sort, 0, 1)) {
            return NO_VALUE;
        }
        thought.become(cart);
        int[] varied = sort == 0 ? thought.kind : thought.more;
        int most = sort == 0 ? KINDS - 1 : MOST_MORE;
        int bits = 0;
        for (int v = 0; v <= most; v++) {
            varied[w] = v;
            if (wouldFit(s)) {
                bits |= 1 << v;
            }
        }
        return bits;
    }

    public int which(int s) {
        int refusal = refusalOfFilm(s);
        if (refusal != ALLOWED) {
            return refusal;
        }
        int bits = 0;
        for (int w = 0; w < WHEELS; w++) {
            if (couldBeWheel(s, w)) {
                bits |= 1 << w;
            }
        }
        return bits;
    }

    private boolean couldBeWheel(int s, int w) {
        thought.become(cart);
        for (int other = 0; other < WHEELS; other++) {
            thought.makePlain(other);
        }
        for (int kind = 0; kind < KINDS; kind++) {
            thought.kind[w] = kind;
            for (int more = 0; more <= MOST_MORE; more++) {
                thought.more[w] = more;
                if (wouldFit(s)) {
                    return true;
                }
            }
        }
        return false;
    }

    public int held(int s, int what) {
        int refusal = refusalOfFilm(s);
        if (refusal != ALLOWED) {
            return refusal;
        }
        if (!within(what, 0, 1)) {
            return NO_VALUE;
        }
        int fitting = 0;
        int earliest = NONE;
        thought.become(cart);
        for (int h = 0; h < HANDINGS; h++) {
            thought.takeHands(h);
            if (wouldFit(s)) {
                fitting++;
                if (earliest == NONE) earliest = h;
            }
        }
        return what == 0 ? fitting : earliest;
    }

    public int laws(int s) {
        int refusal = refusalOfFilm(s);
        if (refusal != ALLOWED) {
            return refusal;
        }
        int bits = 0;
        for (int t = 0; t < textCount; t++) {
            if (firstOtherwise(cart, textNumbered(t), sheets[s]) == NONE) {
                bits |= 1 << t;
            }
        }
        return bits;
    }

    public int film(int s, int n) {
        if (!isSheet(s) || !within(n, 0, TENTHS)) {
            return BAD;
        }
        Sheet film = sheets[s];
        film.become(INTS, n);
        ride.start(cart, theLaw());
        for (int t = 0; t < n; t++) {
            ride.step();
            film.write(t, ride.aside);
        }
        return n;
    }

    private int refusalOfFilm(int s) {
        if (!isSheet(s)) {
            return BAD;
        }
        if (sheets[s].sort == MISSING) {
            return NOTHING_THERE;
        }
        return sheets[s].size > TENTHS ? BAD : ALLOWED;
    }

    private boolean wouldFit(int s) {
        return firstOtherwise(thought, theLaw(), sheets[s]) == NONE;
    }

    private int firstOtherwise(Cart by, Text text, Sheet film) {
        ride.start(by, text);
        for (int t = 0; t < film.size; t++) {
            ride.step();
            if (ride.aside != film.cells[t]) {
                return t;
            }
        }
        return NONE;
    }

    // ---- the row

    public int come(int bad) {
        if (!within(bad, 0, MOST_BAD)) {
            return BAD;
        }
        if (row.size >= TROLLEYS) {
            return FULL;
        }
        row.append(bad);
        return row.size - 1;
    }

    public int rule(int what, int of, int v) {
        if (!within(what, 0, 3) || what == 0 && !within(of, 0, row.size - 1)) {
            return NO_SUCH;
        }
        if (!within(v, what == 1 ? 1 : 0, mostRuled(what))) {
            return NO_VALUE;
        }
        int was;
        switch (what) {
            case 0: was = row.bad[of]; row.bad[of] = v; break;
            case 1: was = row.looks; row.looks = v; break;
            case 2: was = row.bears; row.bears = v; break;
            default: was = row.away; row.away = v; break;
        }
        return was;
    }

    private static int mostRuled(int what) {
        switch (what) {
            case 1: return MOST_LOOKS;
            case 3: return MOST_AWAY;
            default: return MOST_BAD;
        }
    }

    public int meets(int n, int what) {
        if (!isGuests(n) || !within(what, 0, 3)) {
            return BAD;
        }
        thoughtRow.become(row);
        thoughtRow.serve(n);
        switch (what) {
            case 0: return thoughtRow.metBad;
            case 1: return thoughtRow.metWorst;
            case 2: return thoughtRow.metBits;
            default: return thoughtRow.front();
        }
    }

    public int day(int n) {
        if (!isGuests(n)) {
            return BAD;
        }
        row.serve(n);
        return row.front();
    }

    public int stands(int place) {
        return within(place, 0, row.size - 1) ? row.order[place] : NO_SUCH;
    }

    public long share(int n, int part) {
        if (!within(n, 1, GUESTS) || !within(part, 0, 1) || row.size == 0) {
            return NO;
        }
        thoughtRow.become(row);
        thoughtRow.serve(n);
        int above = thoughtRow.metBad * row.size - row.wholeBad() * n;
        return lowestTerm(above, n * row.size, part);
    }

    public int best(int n, int what) {
        if (!isGuests(n) || !within(what, 0, 1)) {
            return BAD;
        }
        int least = ABOVE_ALL;
        int looks = 1;
        for (int l = 1; l <= MOST_LOOKS; l++) {
            thoughtRow.become(row);
            thoughtRow.looks = l;
            thoughtRow.serve(n);
            if (thoughtRow.metBad < least) {
                least = thoughtRow.metBad;
                looks = l;
            }
        }
        return what == 0 ? looks : least;
    }

    public int first(int n, int what) {
        if (!isGuests(n) || !within(what, 0, 1)) {
            return BAD;
        }
        thoughtRow.become(row);
        thoughtRow.serve(n);
        int least = thoughtRow.metBad;
        int trolley = NONE;
        for (int t = 0; t < row.size; t++) {
            thoughtRow.become(row);
            thoughtRow.bad[t] = 0;
            thoughtRow.serve(n);
            if (thoughtRow.metBad < least) {
                least = thoughtRow.metBad;
                trolley = t;
            }
        }
        return what == 0 ? trolley : least;
    }

    // ---- pushes by lot

    public int drawn(int seed, int what) {
        if (!within(seed, 0, MOST_SEED) || !within(what, 0, 1)) {
            return NOWHERE;
        }
        ride.goByLot(cart, theLaw(), seed);
        return what == 0 ? ride.aside : ride.bumpBits;
    }

    public long odds(int seed, int seeds, int part) {
        if (!within(seed, 0, MOST_SEED) || !within(seeds, 1, MOST_SEEDS) || !within(part, 0, 1)) {
            return NO;
        }
        int smooth = 0;
        for (int i = 0; i < seeds; i++) {
            ride.goByLot(cart, theLaw(), seed + i);
            if (ride.bumpBits == 0) smooth++;
        }
        return lowestTerm(smooth, seeds, part);
    }

    public int image() {
        keptCart.become(cart);
        keptRow.become(row);
        keptLaw = law;
        imageKept = true;
        return row.size;
    }

    public int back() {
        if (!imageKept) {
            return STATE;
        }
        cart.become(keptCart);
        row.become(keptRow);
        law = keptLaw;
        return row.size;
    }

    // ---- the host

    public int sheet(int s, int sort, int n) {
        if (!isSheet(s) || !within(sort, MISSING, INTS)) {
            return BAD;
        }
        if (sort == MISSING) {
            sheets[s].become(MISSING, 0);
            return 1;
        }
        if (n > CELLS) {
            return BAD;
        }
        if (n < 0) {
            return SIZE_BELOW;
        }
        sheets[s].become(sort, n);
        return 1;
    }

    public int cell(int s, int i, int v) {
        if (!isSheet(s)) {
            return BAD;
        }
        if (sheets[s].sort == MISSING) {
            return NOTHING_THERE;
        }
        if (!sheets[s].has(i, 1)) {
            return OUTSIDE;
        }
        sheets[s].write(i, v);
        return 1;
    }

    public int copy(int s, int i, int other, int j, int n) {
        if (!isSheet(s) || !isSheet(other)) {
            return BAD;
        }
        Sheet from = sheets[s];
        Sheet to = sheets[other];
        if (from.sort == MISSING || to.sort == MISSING) {
            return NOTHING_THERE;
        }
        if (from.sort != to.sort) {
            return OTHER_SORT;
        }
        if (!from.has(i, n) || !to.has(j, n)) {
            return OUTSIDE;
        }
        System.arraycopy(from.cells, i, to.cells, j, n);
        return n;
    }

    public int loadsBy(int s, int sort, int at, int n) {
        if (!isSheet(s) || !within(sort, BYTES, INTS) || !within(n, 0, PAIRS)) {
            return BAD;
        }
        Sheet pairs = sheets[s];
        if (pairs.sort == MISSING) {
            return NOTHING_THERE;
        }
        if (pairs.sort != sort) {
            return OTHER_SORT;
        }
        int became = 0;
        for (int k = 0; k < n; k++) {
            // Past the first pair at is known to be inside, so the sum can't wrap.
            int i = at + 2 * k;
            if (!pairs.has(i, 2)) {
                return OUTSIDE;
            }
            int place = pairs.cells[i];
            int load = pairs.cells[i + 1];
            if (isPlace(place) && within(load, 0, MOST_LOAD)) {
                cart.load[place] = load;
                became++;
            }
        }
        return became;
    }

    public int taken(int i, int kind) {
        if (!within(kind, 0, A_LOAD)) {
            return BAD;
        }
        if (!within(i, 0, PLACES + WHEELS - 1)) {
            return OUTSIDE;
        }
        if (isPlace(i)) {
            if (cart.load[i] == 0) {
                return NOTHING_THERE;
            }
            return kind == A_LOAD ? cart.load[i] : OTHER_SORT;
        }
        int w = i - PLACES;
        return kind != A_LOAD && cart.isOfKind(w, kind) ? w : OTHER_SORT;
    }

    // ---- what all of them use

    private Text theLaw() {
        return textNumbered(law);
    }

    private Text textNumbered(int t) {
        if (!within(t, 0, TEXTS - 1) || texts[t] == null) {
            return firstText;
        }
        return texts[t];
    }

    private static boolean within(int v, int least, int most) {
        return v >= least && v <= most;
    }

    private static int bounded(int v, int least, int most) {
        return Math.max(least, Math.min(most, v));
    }

    private static boolean isByte(int v) {
        return within(v, 0, 255);
    }

    private static boolean isWheel(int w) {
        return within(w, 0, WHEELS - 1);
    }

    private static boolean isPlace(int p) {
        return within(p, 0, PLACES - 1);
    }

    private static boolean isTenth(int t) {
        return within(t, 0, TENTHS - 1);
    }

    private static boolean isSheet(int s) {
        return within(s, 0, SHEETS - 1);
    }

    private static boolean isGuests(int n) {
        return within(n, 0, GUESTS);
    }

    private static long lowestTerm(int above, int below, int part) {
        int divisor = commonDivisor(Math.abs(above), below);
        if (divisor == 0) {
            return NO;
        }
        return part == 0 ? above / divisor : below / divisor;
    }

    private static int commonDivisor(int a, int b) {
        int big = a;
        int small = b;
        // Each second step halves the greater one, so 100 steps are beyond any two ints.
        for (int i = 0; i < 100 && small != 0; i++) {
            int rest = big % small;
            big = small;
            small = rest;
        }
        return big;
    }

    /** Wheels, loads, hands, pace and aisle: all that a roll goes by, but the law. */
    private static final class Cart {
        final int[] kind = new int[WHEELS];
        final int[] more = new int[WHEELS];
        final int[] kicked = new int[WHEELS];
        final int[] load = new int[PLACES];
        final int[] hand = new int[2];
        final int[] wide = new int[TENTHS];
        int pace = 3;

        Cart() {
            Arrays.fill(wide, 20);
        }

        void become(Cart other) {
            System.arraycopy(other.kind, 0, kind, 0, WHEELS);
            System.arraycopy(other.more, 0, more, 0, WHEELS);
            System.arraycopy(other.kicked, 0, kicked, 0, WHEELS);
            System.arraycopy(other.load, 0, load, 0, PLACES);
            System.arraycopy(other.hand, 0, hand, 0, 2);
            System.arraycopy(other.wide, 0, wide, 0, TENTHS);
            pace = other.pace;
        }

        void takeHands(int both) {
            hand[0] = both / 10;
            hand[1] = both % 10;
        }

        void exchange(int p, int q) {
            int was = load[p];
            load[p] = load[q];
            load[q] = was;
        }

        void makePlain(int w) {
            kind[w] = PLAIN;
            more[w] = 0;
        }

        int wholeLoad() {
            int sum = 0;
            for (int p = 0; p < PLACES; p++) {
                sum += load[p];
            }
            return sum;
        }

        int loadOver(int w) {
            return load[2 * w] + load[2 * w + 1];
        }

        boolean isOfKind(int w, int asked) {
            return asked == PLAIN || kind[w] == asked || KIND_ABOVE[kind[w]] == asked;
        }

        int drag(int w, int said, int tenth) {
            int loaded = loadOver(w);
            if (kind[w] == LIFTED && loaded <= 3 * more[w]) {
                return 0;
            }
            int drag = said;
            if (isOfKind(w, STICKING)) {
                drag += more[w] * (loaded + 1);
            }
            if (isOfKind(w, THREADED)) {
                drag += tenth * more[w] / 4;
            }
            return drag;
        }

        int wish(int w, int tenth) {
            if (isOfKind(w, FLUTTERING) && pace > more[w]) {
                int flutter = 6 * (pace - more[w]);
                return tenth % 2 == 0 ? flutter : -flutter;
            }
            return isOfKind(w, TURNING) ? 2 * more[w] + 1 : 0;
        }

        int loudness(int w) {
            if (isOfKind(w, THREADED)) {
                return 2 * kicked[w] + more[w];
            }
            return isOfKind(w, STICKING) ? kicked[w] : 0;
        }
    }

    /** One roll of a cart by a text, gone step by step. */
    private static final class Ride {
        private Cart cart;
        private Text law;
        private boolean byLot;
        private long lot;
        private int tenth;
        private final int[] hands = new int[2];
        private final int[] dragsSaid = new int[WHEELS];
        private int holdsSaid;
        int pull;
        int aside;
        int cost;
        int holding;
        int bumps;
        int bumpBits;
        int farthest;

        Ride(Cart cart, Text law) {
            this.cart = cart;
            this.law = law;
        }

        void start(Cart by, Text text) {
            cart = by;
            law = text;
            byLot = false;
            tenth = 0;
            hands[0] = by.hand[0];
            hands[1] = by.hand[1];
            pull = 0;
            aside = 0;
            cost = 0;
            holding = 0;
            bumps = 0;
            bumpBits = 0;
            farthest = 0;
        }

        void goAll(Cart by, Text text) {
            start(by, text);
            for (int t = 0; t < TENTHS; t++) {
                step();
            }
        }

        void goByLot(Cart by, Text text, int seed) {
            start(by, text);
            byLot = true;
            lot = seed + 1;
            for (int t = 0; t < TENTHS; t++) {
                step();
            }
        }

        void step() {
            if (tenth >= TENTHS) {
                return;
            }
            if (byLot) {
                drawHands();
            }
            // Most texts don't name the tenth: then they say the same all the way.
            if (tenth == 0 || byLot || law.namesTenth) {
                askLaw();
            }
            pull = pullNow();
            aside -= pull * cart.pace / 8;
            cost = holdsSaid;
            holding += holdsSaid;
            int beyond = Math.abs(aside) - cart.wide[tenth];
            if (beyond > 0) {
                bump(beyond);
            }
            farthest = Math.max(farthest, Math.abs(aside));
            tenth++;
        }

        private void drawHands() {
            lot = lot * 48271L % 2147483647L;
            int left = (int) (lot % 3) - 1;
            int right = (int) (lot / 3 % 3) - 1;
            hands[0] = bounded(cart.hand[0] + left, 0, MOST_HAND);
            hands[1] = bounded(cart.hand[1] + right, 0, MOST_HAND);
        }

        private void askLaw() {
            law.name(PACE, cart.pace);
            law.name(TENTH, tenth);
            for (int w = 0; w < WHEELS; w++) {
                law.name(LOAD, cart.loadOver(w));
                law.name(HAND, hands[w % 2]);
                law.name(MORE, cart.more[w]);
                law.name(WHEEL, w);
                dragsSaid[w] = law.says(DRAGS);
            }
            law.name(LOAD, 0);
            law.name(MORE, 0);
            holdsSaid = 0;
            for (int side = 0; side < 2; side++) {
                law.name(HAND, hands[side]);
                law.name(WHEEL, side);
                holdsSaid += law.says(HOLDS);
            }
        }

        private int pullNow() {
            int sum = 3 * (hands[1] - hands[0]);
            for (int w = 0; w < WHEELS; w++) {
                int drag = cart.drag(w, dragsSaid[w], tenth);
                sum += w % 2 == 0 ? drag : -drag;
                sum += cart.wish(w, tenth);
            }
            return sum;
        }

        private void bump(int beyond) {
            boolean toTheRight = aside > 0;
            law.name(LOAD, Math.min(99, beyond));
            law.name(HAND, 0);
            law.name(PACE, cart.pace);
            law.name(TENTH, tenth);
            law.name(MORE, 0);
            law.name(WHEEL, toTheRight ? 1 : 0);
            int said = law.says(BUMPS);
            bumps += said;
            cost += said;
            bumpBits |= 1 << tenth;
            aside = toTheRight ? cart.wide[tenth] : -cart.wide[tenth];
        }
    }

    /** A text that has been read: its three parts one behind the other, operands ahead of what joins them. */
    private static final class Text {
        // Below the names, so that one number tells what it is.
        static final int NEGATE = -11, DENY = -12;
        static final int TIMES = -21, PLUS = -22, MINUS = -23, LESS = -24, SAME = -25, BOTH = -26, EITHER = -27;

        final boolean namesTenth;
        private final int[] code;
        private final int[] ends;
        private final int[] names = new int[NAMES];
        private final int[] stack;

        Text(Reader read) {
            code = Arrays.copyOf(read.code, read.codeSize);
            ends = Arrays.copyOf(read.ends, PARTS);
            stack = new int[code.length];
            boolean found = false;
            for (int i = 0; i < code.length; i++) {
                found = found || code[i] == ofName(TENTH);
            }
            namesTenth = found;
        }

        static int ofName(int name) {
            return -1 - name;
        }

        void name(int which, int v) {
            names[which] = v;
        }

        int says(int part) {
            int top = 0;
            int end = Math.min(ends[part], code.length);
            for (int i = part == 0 ? 0 : ends[part - 1]; i < end; i++) {
                int op = code[i];
                if (op > NEGATE && top < stack.length) {
                    stack[top] = op >= 0 ? op : named(-1 - op);
                    top++;
                } else if (op >= DENY && top >= 1) {
                    stack[top - 1] = alone(op, stack[top - 1]);
                } else if (top >= 2) {
                    top--;
                    stack[top - 1] = joined(op, stack[top - 1], stack[top]);
                }
            }
            return top == 0 ? 0 : Math.max(0, Math.min(99, stack[0]));
        }

        private int named(int name) {
            return name < NAMES ? names[name] : 0;
        }

        private static int alone(int op, int a) {
            if (op == NEGATE) {
                return -a;
            }
            return a == 0 ? 1 : 0;
        }

        private static int joined(int op, int a, int b) {
            switch (op) {
                case TIMES: return a * b;
                case PLUS: return a + b;
                case MINUS: return a - b;
                case LESS: return a < b ? 1 : 0;
                case SAME: return a == b ? 1 : 0;
                case BOTH: return a != 0 && b != 0 ? 1 : 0;
                default: return a != 0 || b != 0 ? 1 : 0;
            }
        }
    }

    /** Holds the tape, and reads it token by token. */
    private static final class Reader {
        // Signs are tokens by their own byte, so the others stand above all bytes.
        private static final int BROKEN = 300, END = 301, NUMBER = 302;
        private static final int FIRST_NAME = 310, FIRST_PART = 316, OR = 319, AND = 320, NOT = 321;
        private static final int WORDS = 12;
        private static final int MOST_DIGITS = 4, MOST_OPEN = 5;

        private final int[] tape = new int[TAPE];
        int size;
        private int place;
        private int token;
        private int tokenPlace;
        private int number;
        private int fault;
        final int[] code = new int[TAPE];
        int codeSize;
        final int[] ends = new int[PARTS];

        void append(int b) {
            if (size < TAPE) {
                tape[size] = b;
                size++;
            }
        }

        void empty() {
            size = 0;
        }

        /** Reads the whole tape; NONE, if there is no fault. */
        int findFault() {
            place = 0;
            fault = NONE;
            codeSize = 0;
            next();
            for (int part = 0; part < PARTS; part++) {
                expect(FIRST_PART + part);
                readEither(0);
                expect(';');
                ends[part] = codeSize;
            }
            expect(END);
            return fault;
        }

        private void expect(int wanted) {
            if (token == wanted) {
                next();
            } else {
                fail();
            }
        }

        private void fail() {
            if (fault == NONE) {
                fault = tokenPlace;
            }
            // So that none of those who wait for a token goes on.
            token = BROKEN;
        }

        private void emit(int op) {
            if (codeSize < TAPE) {
                code[codeSize] = op;
                codeSize++;
            }
        }

        private void readEither(int open) {
            readBoth(open);
            for (int i = 0; i < TAPE && token == OR; i++) {
                next();
                readBoth(open);
                emit(Text.EITHER);
            }
        }

        private void readBoth(int open) {
            readDenied(open);
            for (int i = 0; i < TAPE && token == AND; i++) {
                next();
                readDenied(open);
                emit(Text.BOTH);
            }
        }

        private void readDenied(int open) {
            if (token == NOT && open >= MOST_OPEN) {
                fail();
            } else if (token == NOT) {
                next();
                readDenied(open + 1);
                emit(Text.DENY);
            } else {
                readCompared(open);
            }
        }

        private void readCompared(int open) {
            readSum(open);
            if (token == '<' || token == '=') {
                int op = token == '<' ? Text.LESS : Text.SAME;
                next();
                readSum(open);
                emit(op);
            }
        }

        private void readSum(int open) {
            readTerm(open);
            for (int i = 0; i < TAPE && (token == '+' || token == '-'); i++) {
                int op = token == '+' ? Text.PLUS : Text.MINUS;
                next();
                readTerm(open);
                emit(op);
            }
        }

        private void readTerm(int open) {
            readOne(open);
            for (int i = 0; i < TAPE && token == '*'; i++) {
                next();
                readOne(open);
                emit(Text.TIMES);
            }
        }

        private void readOne(int open) {
            if (token == NUMBER) {
                emit(number);
                next();
            } else if (within(token, FIRST_NAME, FIRST_NAME + NAMES - 1)) {
                emit(Text.ofName(token - FIRST_NAME));
                next();
            } else if (open >= MOST_OPEN) {
                fail();
            } else if (token == '-') {
                next();
                readOne(open + 1);
                emit(Text.NEGATE);
            } else if (token == '(') {
                next();
                readEither(open + 1);
                expect(')');
            } else {
                fail();
            }
        }

        private void next() {
            while (place < size && isBlank(tape[place])) {
                place++;
            }
            tokenPlace = place;
            if (place >= size) {
                token = END;
            } else if (isLetter(tape[place])) {
                readWord();
            } else if (isDigit(tape[place])) {
                readNumber();
            } else {
                token = isSign(tape[place]) ? tape[place] : BROKEN;
                place++;
            }
        }

        private void readWord() {
            while (place < size && isLetter(tape[place])) {
                place++;
            }
            token = BROKEN;
            for (int i = 0; i < WORDS; i++) {
                if (tokenIs(word(i))) {
                    token = FIRST_NAME + i;
                }
            }
        }

        private boolean tokenIs(String word) {
            if (place - tokenPlace != word.length()) {
                return false;
            }
            for (int i = 0; i < word.length(); i++) {
                if (tape[tokenPlace + i] != word.charAt(i)) {
                    return false;
                }
            }
            return true;
        }

        private void readNumber() {
            number = 0;
            while (place < size && isDigit(tape[place])) {
                number = number * 10 + tape[place] - '0';
                place++;
            }
            token = place - tokenPlace > MOST_DIGITS ? BROKEN : NUMBER;
        }

        /** The names, the parts and the joining words, in the order of their tokens. */
        private static String word(int i) {
            switch (i) {
                case 0: return "load";
                case 1: return "hand";
                case 2: return "pace";
                case 3: return "tenth";
                case 4: return "more";
                case 5: return "wheel";
                case 6: return "drags";
                case 7: return "holds";
                case 8: return "bumps";
                case 9: return "or";
                case 10: return "and";
                default: return "not";
            }
        }

        private static boolean isBlank(int b) {
            return b == 32 || b == 10;
        }

        private static boolean isLetter(int b) {
            return within(b, 'a', 'z');
        }

        private static boolean isDigit(int b) {
            return within(b, '0', '9');
        }

        private static boolean isSign(int b) {
            return b == '(' || b == ')' || b == ';' || b == '+' || b == '-'
                    || b == '*' || b == '<' || b == '=';
        }
    }

    /** The trolleys at the door, and what the guests of the last serving met. */
    private static final class Row {
        final int[] bad = new int[TROLLEYS];
        final int[] order = new int[TROLLEYS];
        int size;
        int looks = 1;
        int bears = 30;
        int away = 2;
        private int standing;
        private final int[] takenBy = new int[GUESTS];
        int metBad;
        int metWorst;
        int metBits;

        void become(Row other) {
            System.arraycopy(other.bad, 0, bad, 0, TROLLEYS);
            System.arraycopy(other.order, 0, order, 0, TROLLEYS);
            size = other.size;
            looks = other.looks;
            bears = other.bears;
            away = other.away;
        }

        void append(int badness) {
            if (size < TROLLEYS) {
                bad[size] = badness;
                order[size] = size;
                size++;
            }
        }

        int front() {
            return size > 0 ? order[0] : NONE;
        }

        int wholeBad() {
            int sum = 0;
            for (int t = 0; t < size; t++) {
                sum += bad[t];
            }
            return sum;
        }

        void serve(int guests) {
            metBad = 0;
            metWorst = 0;
            metBits = 0;
            standing = size;
            for (int g = 0; g < guests; g++) {
                pushIn(g - 1 - away);
                takenBy[g] = takeOut();
            }
            for (int g = Math.max(0, guests - 1 - away); g < guests; g++) {
                pushIn(g);
            }
        }

        private void pushIn(int guest) {
            if (guest >= 0 && takenBy[guest] != NONE && standing < TROLLEYS) {
                order[standing] = takenBy[guest];
                standing++;
            }
        }

        private int takeOut() {
            int chosen = placeChosen();
            if (chosen == NONE) {
                return NONE;
            }
            int trolley = order[chosen];
            for (int p = chosen + 1; p < standing; p++) {
                order[p - 1] = order[p];
            }
            standing--;
            metBad += bad[trolley];
            metWorst = Math.max(metWorst, bad[trolley]);
            metBits |= 1 << trolley;
            return trolley;
        }

        private int placeChosen() {
            int leastBad = NONE;
            for (int p = 0; p < standing && p < looks; p++) {
                int badness = bad[order[p]];
                if (badness <= bears) {
                    return p;
                }
                if (leastBad == NONE || badness < bad[order[leastBad]]) {
                    leastBad = p;
                }
            }
            return leastBad;
        }
    }

    /** A row of numbers of a sort, or a missing one. */
    private static final class Sheet {
        int sort = MISSING;
        int size;
        final int[] cells = new int[CELLS];

        void become(int newSort, int n) {
            sort = newSort;
            size = bounded(n, 0, CELLS);
            Arrays.fill(cells, 0);
        }

        boolean has(int i, int n) {
            return i >= 0 && n >= 0 && i <= size && n <= size - i;
        }

        void write(int i, int v) {
            if (sort == BYTES) {
                cells[i] = (byte) v;
            } else if (sort == SHORTS) {
                cells[i] = (short) v;
            } else {
                cells[i] = v;
            }
        }
    }
}
