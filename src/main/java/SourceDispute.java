import java.util.Arrays;

/** A river whose source is disputed by its mouth; the document tells what each call answers. */
public final class SourceDispute {
    public static final int NONE = -1;

    /** What calls answer where nobody is, as against NONE: no such question. */
    private static final int NOBODY = -2;
    private static final int MOUTH = 0;
    private static final int MOST_PLACES = 12;
    private static final int MOST_BYTES = 2000;
    private static final int RULING_LAWS = 3;
    private static final int SLOTS = 3;
    private static final int MOST_MONTHS = 60;
    private static final int MOST_AHEAD = 24;
    private static final int MOST_SEEDS = 20;
    private static final int MOST_DAMS = 3;
    private static final int MOST_TOLD = 9999;

    private final Tape tape;
    private final Parser parser;
    private final River river;
    private final Shape shape;
    private final Past past;
    private final Dye dye;
    private final Course now;
    /** What would be is tried on this one, so that nothing happens. */
    private final Course tried;
    private final Course[] slots;
    private final int[] tally;
    private Told told;
    /** Texts are read into this one, so that a fault changes nothing. */
    private Told spare;
    private int heldSlots;
    private int faultPlace;

    public SourceDispute() {
        tape = new Tape();
        parser = new Parser();
        river = new River();
        shape = river.shape;
        past = new Past();
        dye = new Dye();
        now = new Course();
        tried = new Course();
        slots = new Course[SLOTS];
        for (int i = 0; i < SLOTS; i++) {
            slots[i] = new Course();
        }
        tally = new int[MOST_PLACES];
        told = new Told();
        spare = new Told();
        heldSlots = 0;
        faultPlace = NONE;
    }

    // ---- the tape and the text

    public int feed(int a, int b, int c, int d, int e) {
        if (tape.size + 20 > MOST_BYTES) {
            return NONE;
        }
        tape.append(a);
        tape.append(b);
        tape.append(c);
        tape.append(d);
        tape.append(e);
        return tape.size;
    }

    public int back(int n) {
        if (n < 0 || n > tape.size) {
            return NONE;
        }
        tape.size -= n;
        return tape.size;
    }

    public int read() {
        int fault = parser.parse(tape.bytes, tape.size, spare);
        faultPlace = parser.faultPlace;
        tape.size = 0;
        if (fault == 0) {
            Told read = spare;
            spare = told;
            told = read;
            beginAnew();
        }
        return fault;
    }

    private void beginAnew() {
        now.begin(told);
        past.size = 0;
        dye.size = 0;
        heldSlots = 0;
    }

    public int place() {
        return faultPlace;
    }

    // ---- what is there

    public int spot(int place, int what) {
        if (!isPlace(place) || what < 0 || what > 12) {
            return NONE;
        }
        look();
        switch (what) {
            case 0: return place == MOUTH ? NOBODY : now.into[place];
            case 1: return told.length[place];
            case 2: return told.rain[place];
            case 3: return told.tale[place];
            case 4: return has(now.dams, place) ? 1 : 0;
            case 5: return river.flow[place];
            case 6: return shape.far[place];
            case 7: return shape.above[place];
            case 8: return shape.isSource(place) ? 1 : 0;
            case 9: return now.won[place];
            case 10: return now.money[place];
            case 11: return river.rains[place];
            default: return river.dried(place);
        }
    }

    public int claim(int place, int law) {
        return isContest(place, law) ? river.claimOf(place, law) : NONE;
    }

    public int winner(int law) {
        if (!isLaw(law)) {
            return NONE;
        }
        look();
        return river.winnerBy(law);
    }

    public int count(int what) {
        look();
        switch (what) {
            case 0: return told.places;
            case 1: return now.month;
            case 2: return now.moon();
            case 3: return now.rules;
            case 4: return shape.sources();
            case 5: return now.dams;
            case 6: return mouthFlow();
            case 7: return sumOf(now.money);
            case 8: return tape.size;
            case 9: return past.size;
            case 10: return dye.size;
            case 11: return Integer.bitCount(heldSlots);
            case 12: return told.isStorm(told.seed, now.month) ? 1 : 0;
            case 13: return sumOf(told.length);
            case 14: return turnedPlaces();
            case 15: return sumOf(told.rain);
            case 16: return shape.greatestFar();
            default: return NONE;
        }
    }

    private int sumOf(int[] row) {
        int sum = 0;
        for (int p = 0; p < told.places; p++) {
            sum += row[p];
        }
        return sum;
    }

    private int turnedPlaces() {
        int bits = 0;
        for (int p = 1; p < told.places; p++) {
            if (now.into[p] != told.into[p]) {
                bits |= bit(p);
            }
        }
        return bits;
    }

    // ---- what is done by hand

    public boolean dam(int place, boolean on) {
        if (place == MOUTH || !isPlace(place) || has(now.dams, place) == on) {
            return false;
        }
        past.push(now);
        now.dams ^= bit(place);
        return true;
    }

    public boolean turn(int place, int into) {
        if (!isTurn(place, into)) {
            return false;
        }
        past.push(now);
        now.into[place] = into;
        return true;
    }

    private boolean isTurn(int place, int into) {
        return place != MOUTH && isPlace(place) && isPlace(into)
            && now.into[place] != into && !now.comesBy(into, place);
    }

    public boolean rule(int law) {
        if (!isLaw(law) || now.rules == law) {
            return false;
        }
        past.push(now);
        now.rules = law;
        return true;
    }

    public int months(int n) {
        if (!isWithin(n, 0, MOST_MONTHS)) {
            return NONE;
        }
        if (n > 0) {
            past.push(now);
            river.goThrough(told, now, n, told.seed);
        }
        return now.month;
    }

    public boolean undo() {
        return past.pop(now);
    }

    public boolean hold(int slot) {
        if (!isWithin(slot, 0, SLOTS - 1)) {
            return false;
        }
        slots[slot].copy(now);
        heldSlots |= bit(slot);
        return true;
    }

    public boolean restore(int slot) {
        if (!isWithin(slot, 0, SLOTS - 1) || !has(heldSlots, slot)) {
            return false;
        }
        now.copy(slots[slot]);
        past.size = 0;
        return true;
    }

    // ---- claims against one another

    public int behind(int place, int law) {
        if (!isContest(place, law)) {
            return NONE;
        }
        int first = river.winnerBy(law);
        return first < 0 ? NONE : river.claims[first] - river.claims[place];
    }

    public int margin(int law) {
        if (!isLaw(law)) {
            return NONE;
        }
        look();
        river.weigh(law);
        int first = river.greatestClaim(NONE);
        int second = river.greatestClaim(first);
        return first < 0 || second < 0 ? NOBODY : river.claims[first] - river.claims[second];
    }

    public int rank(int place, int law) {
        if (!isContest(place, law)) {
            return NONE;
        }
        river.weigh(law);
        return river.rankOf(place);
    }

    public int vote(int what) {
        if (!isWithin(what, 0, 1)) {
            return NONE;
        }
        look();
        if (shape.sources() == 0) {
            return NOBODY;
        }
        castVotes();
        int law = 0;
        for (int other = 1; other < RULING_LAWS; other++) {
            if (votesFor(other) > votesFor(law)) {
                law = other;
            }
        }
        return what == 0 ? law : votesFor(law);
    }

    /** The tally holds, for each source, RULING_LAWS * its best rank + the first law that gives it. */
    private void castVotes() {
        for (int law = 0; law < RULING_LAWS; law++) {
            river.weigh(law);
            for (int p = 1; p < told.places; p++) {
                int ballot = RULING_LAWS * river.rankOf(p) + law;
                tally[p] = law == 0 ? ballot : Math.min(tally[p], ballot);
            }
        }
    }

    private int votesFor(int law) {
        int votes = 0;
        for (int p = 1; p < told.places; p++) {
            if (shape.isSource(p) && tally[p] % RULING_LAWS == law) {
                votes++;
            }
        }
        return votes;
    }

    public int richest(int what) {
        if (!isWithin(what, 0, 1)) {
            return NONE;
        }
        int best = MOUTH;
        for (int p = 1; p < told.places; p++) {
            if (now.money[p] > now.money[best]) {
                best = p;
            }
        }
        if (now.money[best] == 0) {
            return NOBODY;
        }
        return what == 0 ? best : now.money[best];
    }

    public int turnFor(int place, int law) {
        if (!isContest(place, law)) {
            return NONE;
        }
        for (int p = 1; p < told.places; p++) {
            for (int into = 0; into < told.places; into++) {
                if (p != place && isTurn(p, into) && winsTurned(place, law, p, into)) {
                    return 100 * p + into;
                }
            }
        }
        return NOBODY;
    }

    private boolean winsTurned(int source, int law, int turned, int into) {
        tried.copy(now);
        tried.into[turned] = into;
        river.look(told, tried);
        return river.winnerBy(law) == source;
    }

    public int damFor(int place, int law) {
        if (!isContest(place, law)) {
            return NONE;
        }
        for (int p = 1; p < told.places; p++) {
            if (!has(now.dams, p)) {
                river.run(now.dams | bit(p));
                if (river.winnerBy(law) == place) {
                    return p;
                }
            }
        }
        return NOBODY;
    }

    // ---- what the mouth gets

    public int dams(int v, int i) {
        if (!hasMouth() || !isWithin(v, 0, MOST_TOLD) || !isWithin(i, NONE, MOST_DAMS - 1)) {
            return NONE;
        }
        look();
        int found = fewestDams(v);
        if (found == NONE) {
            return NOBODY;
        }
        return i == NONE ? Integer.bitCount(found) : bitAt(found, i);
    }

    /** The first of the fewest dams that leave the mouth v or less: bits; NONE if three do not. */
    private int fewestDams(int v) {
        int free = (bit(told.places) - 1) & ~(now.dams | bit(MOUTH));
        int best = NONE;
        for (int set = 0; set <= free; set++) {
            if ((set & ~free) == 0 && Integer.bitCount(set) <= MOST_DAMS && isAhead(set, best)) {
                river.run(now.dams | set);
                best = mouthFlow() <= v ? set : best;
            }
        }
        return best;
    }

    /** Whether a set is looked for ahead of another one: fewer places, or as many and a lower number first. */
    private static boolean isAhead(int set, int other) {
        int fewer = Integer.bitCount(other) - Integer.bitCount(set);
        int firstUnlike = (set ^ other) & -(set ^ other);
        return other == NONE || fewer > 0 || fewer == 0 && (set & firstUnlike) != 0;
    }

    public int loss(int place) {
        if (place == MOUTH || !isPlace(place)) {
            return NONE;
        }
        look();
        return lossOf(place);
    }

    private int lossOf(int place) {
        int before = mouthFlow();
        river.run(now.dams | bit(place));
        return before - mouthFlow();
    }

    public int part(int place) {
        if (place == MOUTH || !isPlace(place)) {
            return NONE;
        }
        look();
        int whole = mouthFlow();
        return whole == 0 ? 0 : lossOf(place) * 1000 / whole;
    }

    public int main(int i) {
        if (!hasMouth() || i < 0) {
            return NONE;
        }
        look();
        int at = MOUTH;
        for (int step = 0; step < i && at != NONE; step++) {
            at = greatestInto(at);
        }
        return at;
    }

    private int greatestInto(int place) {
        int best = NONE;
        for (int p = 1; p < told.places; p++) {
            if (now.into[p] == place && (best == NONE || river.flow[p] > river.flow[best])) {
                best = p;
            }
        }
        return best;
    }

    // ---- months that would be

    /** Looks at a copy of what is now, without a storm. */
    private void tryFromNow() {
        tried.copy(now);
        river.look(told, tried);
    }

    public int agree(int n) {
        if (!isWithin(n, 1, MOST_AHEAD)) {
            return NONE;
        }
        int agreed = 0;
        tryFromNow();
        for (int i = 0; i < n; i++) {
            int first = river.winnerBy(0);
            if (first > 0 && first == river.winnerBy(1) && first == river.winnerBy(2)) {
                agreed++;
            }
            river.goOn();
        }
        return agreed;
    }

    public int driest(int n, int what) {
        if (!hasMouth() || !isWithin(n, 1, MOST_AHEAD) || !isWithin(what, 0, 1)) {
            return NONE;
        }
        int which = 0;
        tryFromNow();
        int least = mouthFlow();
        for (int i = 1; i < n; i++) {
            river.goOn();
            if (mouthFlow() < least) {
                least = mouthFlow();
                which = i;
            }
        }
        return what == 0 ? which : least;
    }

    public int reign(int law, int n, int what) {
        if (!isLaw(law) || !isWithin(n, 1, MOST_AHEAD) || !isWithin(what, 0, 1)) {
            return NONE;
        }
        Arrays.fill(tally, 0);
        tryFromNow();
        for (int i = 0; i < n; i++) {
            int winner = river.winnerBy(law);
            if (winner > 0) {
                tally[winner]++;
            }
            river.goOn();
        }
        return what == 0 ? tallied() : mostTallied();
    }

    private int tallied() {
        int unlike = 0;
        for (int p = 1; p < told.places; p++) {
            if (tally[p] > 0) {
                unlike++;
            }
        }
        return unlike;
    }

    private int mostTallied() {
        int best = NOBODY;
        for (int p = 1; p < told.places; p++) {
            if (tally[p] > (best < 0 ? 0 : tally[best])) {
                best = p;
            }
        }
        return best;
    }

    public int when(int place) {
        look();
        if (!shape.isSource(place)) {
            return NONE;
        }
        tryFromNow();
        for (int i = 1; i <= MOST_MONTHS; i++) {
            river.goOn();
            if (tried.won[place] > now.won[place]) {
                return i;
            }
        }
        return NOBODY;
    }

    public int then(int place, int n, int what) {
        look();
        if (!shape.isSource(place) || !isWithin(n, 0, MOST_MONTHS) || !isWithin(what, 0, 1)) {
            return NONE;
        }
        tried.copy(now);
        river.goThrough(told, tried, n, told.seed);
        return what == 0 ? tried.won[place] : tried.money[place];
    }

    public int flowIn(int n) {
        if (!hasMouth() || !isWithin(n, 0, MOST_MONTHS)) {
            return NONE;
        }
        tried.copy(now);
        river.goThrough(told, tried, n, told.seed);
        river.look(told, tried);
        return mouthFlow();
    }

    public int year(int place, int n, int s) {
        look();
        if (!shape.isSource(place) || !isWithin(n, 0, MOST_MONTHS) || !isWithin(s, 1, MOST_SEEDS)) {
            return NONE;
        }
        int years = 0;
        for (int i = 0; i < s; i++) {
            tried.copy(now);
            river.goThrough(told, tried, n, told.seed + i);
            if (hasWonMost(place)) {
                years++;
            }
        }
        return years;
    }

    private boolean hasWonMost(int source) {
        boolean most = true;
        for (int p = 1; p < told.places; p++) {
            if (p != source && shape.isSource(p) && tried.won[p] >= tried.won[source]) {
                most = false;
            }
        }
        return most;
    }

    // ---- the shape of the river

    public int depth() {
        look();
        return shape.deepest();
    }

    public int order(int place) {
        if (!isPlace(place)) {
            return NONE;
        }
        look();
        return shape.orderOf(now, place);
    }

    public int basin(int place, int what) {
        if (!isPlace(place) || !isWithin(what, 0, 1)) {
            return NONE;
        }
        look();
        int bits = shape.comingBy(place);
        return what == 0 ? bits : river.rainsOf(bits);
    }

    public int tour() {
        look();
        return shape.tourOf(shape.sources());
    }

    public int parted() {
        look();
        int all = shape.sources();
        int least = shape.tourOf(all);
        for (int one = 0; one < all; one++) {
            if ((one & all) == one) {
                least = Math.min(least, Math.max(shape.tourOf(one), shape.tourOf(all & ~one)));
            }
        }
        return least;
    }

    public int meet(int place, int other, int what) {
        if (!isPlace(place) || !isPlace(other) || !isWithin(what, 0, 1)) {
            return NONE;
        }
        look();
        int met = shape.meeting(place, other);
        return what == 0 ? met : shape.far[place] + shape.far[other] - 2 * shape.far[met];
    }

    // ---- whose dye it was

    public int tell(int place, int d, int e, boolean so) {
        if (!isPlace(place) || !isWithin(d, 0, MOST_TOLD) || !isWithin(e, d, MOST_TOLD)) {
            return NONE;
        }
        return dye.add(place, d, e, so);
    }

    public int forget() {
        int many = dye.size;
        dye.size = 0;
        return many;
    }

    public int dyed(int k, int what) {
        if (!isWithin(k, 0, dye.size) || !isWithin(what, 0, 1)) {
            return NONE;
        }
        look();
        int left = dye.left(shape, k);
        return what == 0 ? Integer.bitCount(left) : left;
    }

    public int watch(int k) {
        if (!isWithin(k, 0, dye.size)) {
            return NONE;
        }
        look();
        int left = dye.left(shape, k);
        if (left == 0) {
            return NOBODY;
        }
        int best = MOUTH;
        for (int p = 1; p < told.places; p++) {
            if (leftAtWorst(left, p) < leftAtWorst(left, best)) {
                best = p;
            }
        }
        return best;
    }

    private int leftAtWorst(int left, int place) {
        int by = left & shape.comingBy(place);
        return Math.max(Integer.bitCount(by), Integer.bitCount(left & ~by));
    }

    // ---- what the calls have in common

    private void look() {
        river.look(told, now);
    }

    private boolean hasMouth() {
        return told.places > 0;
    }

    private int mouthFlow() {
        return hasMouth() ? river.flow[MOUTH] : 0;
    }

    private boolean isPlace(int place) {
        return isWithin(place, 0, told.places - 1);
    }

    private boolean isLaw(int law) {
        return isWithin(law, 0, RULING_LAWS - 1);
    }

    /** Looks at the river as it is now, and tells whether the place is a source and there is such a law. */
    private boolean isContest(int place, int law) {
        river.look(told, now);
        return isLaw(law) && shape.isSource(place);
    }

    private static boolean isWithin(int value, int low, int high) {
        return value >= low && value <= high;
    }

    private static int held(int value, int low, int high) {
        return Math.max(low, Math.min(high, value));
    }

    private static int bit(int place) {
        return 1 << place;
    }

    private static boolean has(int bits, int place) {
        return (bits & bit(place)) != 0;
    }

    /** The i-th bit that is set, from the lowest on; NONE if there are not so many. */
    private static int bitAt(int bits, int i) {
        int seen = 0;
        for (int p = 0; p < MOST_PLACES; p++) {
            if (has(bits, p)) {
                if (seen == i) {
                    return p;
                }
                seen++;
            }
        }
        return NONE;
    }

    /** The bytes that were fed and not yet read. */
    private static final class Tape {
        private final byte[] bytes = new byte[MOST_BYTES];
        private int size = 0;

        void append(int four) {
            for (int shift = 24; shift >= 0; shift -= 8) {
                if (size < bytes.length) {
                    bytes[size] = (byte) (four >>> shift);
                    size++;
                }
            }
        }
    }

    /** What a text tells: the places as told, the laws as code, storms, the prize, the seed. */
    private static final class Told {
        private static final int RAINS = 0;
        private static final int DRIES = 1;
        private static final int ONE = 2;
        private static final int ALL_LAWS = 5;
        /** A token makes one step of code at most; the laws that are not told take ten more. */
        private static final int MOST_STEPS = 420;
        private static final int[] UNTOLD_LAWS = {
            Code.RAIN, Code.ZERO, Code.FAR, Code.FLOW, Code.TALE
        };

        private int places;
        private final long[] name = new long[MOST_PLACES];
        private final int[] into = new int[MOST_PLACES];
        private final int[] length = new int[MOST_PLACES];
        private final int[] rain = new int[MOST_PLACES];
        private final int[] tale = new int[MOST_PLACES];
        private final int[] steps = new int[MOST_STEPS];
        private final int[] values = new int[MOST_STEPS];
        private int size;
        private final int[] start = new int[ALL_LAWS];
        private int stormChance;
        private int stormRain;
        private int prize;
        private int seed;

        Told() {
            clear();
        }

        void clear() {
            places = 0;
            size = 0;
            for (int law = 0; law < ALL_LAWS; law++) {
                int untold = UNTOLD_LAWS[law];
                start[law] = size;
                addStep(untold == Code.ZERO ? Code.PUSH : Code.LOAD, untold == Code.ZERO ? 0 : untold);
                addStep(Code.ANSWER, 0);
            }
            stormChance = 0;
            stormRain = 0;
            prize = 1;
            seed = 0;
        }

        void addStep(int step, int value) {
            if (size < MOST_STEPS) {
                steps[size] = step;
                values[size] = value;
                size++;
            }
        }

        void setValue(int at, int value) {
            if (at >= 0 && at < size) {
                values[at] = value;
            }
        }

        void setPlace(int place, int runsInto, int stretch, int rainThere, int taleThere) {
            if (place >= 0 && place < MOST_PLACES) {
                into[place] = runsInto;
                length[place] = stretch;
                rain[place] = rainThere;
                tale[place] = taleThere;
            }
        }

        boolean isStorm(int bySeed, int month) {
            return lot(100, bySeed, 4 * month) < stormChance;
        }

        private static int lot(int n, int seed, int which) {
            return (stirred(stirred(seed, 147), which) >>> 1) % Math.max(1, n);
        }

        private static int stirred(int h, int it) {
            int mixed = (h ^ it) * 1103515245 + 12345;
            return mixed ^ (mixed >>> 15);
        }
    }

    /** The steps that laws are made of, and how one is gone through. */
    private static final class Code {
        private static final int PUSH = 0;
        private static final int LOAD = 1;
        private static final int ADD = 2;
        private static final int TAKE = 3;
        private static final int TIMES = 4;
        private static final int DIVIDE = 5;
        /** Goes on at its value unless the one number is less than the other. */
        private static final int UNLESS_LESS = 6;
        private static final int ANSWER = 7;

        private static final int ZERO = -1;
        private static final int RAIN = 0;
        private static final int FAR = 1;
        private static final int TALE = 2;
        private static final int MOON = 3;
        private static final int FLOW = 4;
        private static final int LENGTH = 5;
        private static final int WON = 6;
        private static final int WHICH = 7;
        private static final int ABOVE = 8;
        private static final int ALL_VARS = 9;
        /** Six brackets within one another keep two numbers each, and an if keeps one. */
        private static final int MOST_KEPT = 32;

        private final int[] vars = new int[ALL_VARS];
        private final int[] kept = new int[MOST_KEPT];

        int answer(Told told, int law) {
            int top = 0;
            int at = told.start[law];
            for (int i = 0; i < Told.MOST_STEPS && at >= 0 && at < told.size; i++) {
                int step = told.steps[at];
                int value = told.values[at];
                at++;
                if (step == ANSWER) {
                    return top > 0 ? kept[top - 1] : 0;
                }
                if (step == PUSH || step == LOAD) {
                    if (top >= MOST_KEPT || value < 0 || step == LOAD && value >= ALL_VARS) {
                        return 0;
                    }
                    kept[top] = step == PUSH ? value : vars[value];
                    top++;
                    continue;
                }
                if (top < 2) {
                    return 0;
                }
                top--;
                int right = kept[top];
                int left = kept[top - 1];
                switch (step) {
                    case ADD:
                        kept[top - 1] = left + right;
                        break;
                    case TAKE:
                        kept[top - 1] = left - right;
                        break;
                    case TIMES:
                        kept[top - 1] = left * right;
                        break;
                    case DIVIDE:
                        if (right == 0) {
                            return 0;
                        }
                        kept[top - 1] = left / right;
                        break;
                    default:
                        top--;
                        at = left >= right && value > at ? value : at;
                }
            }
            return 0;
        }
    }

    /** All that goes on: what months and hands change. */
    private static final class Course {
        private static final int MOST_WON = 999;

        private final int[] into = new int[MOST_PLACES];
        private final int[] won = new int[MOST_PLACES];
        private final int[] money = new int[MOST_PLACES];
        private int dams = 0;
        private int month = 0;
        private int rules = 0;

        void begin(Told told) {
            System.arraycopy(told.into, 0, into, 0, MOST_PLACES);
            Arrays.fill(won, 0);
            Arrays.fill(money, 0);
            dams = 0;
            month = 0;
            rules = 0;
        }

        void copy(Course other) {
            System.arraycopy(other.into, 0, into, 0, MOST_PLACES);
            System.arraycopy(other.won, 0, won, 0, MOST_PLACES);
            System.arraycopy(other.money, 0, money, 0, MOST_PLACES);
            dams = other.dams;
            month = other.month;
            rules = other.rules;
        }

        int moon() {
            return month % 12;
        }

        /** Whether what flows from a place comes by another one, itself too. */
        boolean comesBy(int from, int place) {
            int at = from;
            for (int i = 0; i < MOST_PLACES && at != place && at != MOUTH; i++) {
                at = into[at];
            }
            return at == place;
        }

        void pay(int winner, int prize) {
            money[winner] += prize;
            won[winner] = Math.min(MOST_WON, won[winner] + 1);
        }
    }

    /** The courses that can be gone back to, the oldest given up first. */
    private static final class Past {
        private static final int MOST_UNDONE = 40;

        private final Course[] courses = new Course[MOST_UNDONE];
        private int next = 0;
        private int size = 0;

        Past() {
            for (int i = 0; i < MOST_UNDONE; i++) {
                courses[i] = new Course();
            }
        }

        void push(Course course) {
            courses[next].copy(course);
            next = (next + 1) % MOST_UNDONE;
            size = Math.min(MOST_UNDONE, size + 1);
        }

        boolean pop(Course course) {
            if (size == 0) {
                return false;
            }
            next = (next + MOST_UNDONE - 1) % MOST_UNDONE;
            size--;
            course.copy(courses[next]);
            return true;
        }
    }

    /** How the places run together: ways, how far, how many above, orders. */
    private static final class Shape {
        private int places = 0;
        private final int[] length = new int[MOST_PLACES];
        /** The places, each behind the one that it runs into. */
        private final int[] line = new int[MOST_PLACES];
        private final int[] far = new int[MOST_PLACES];
        private final int[] above = new int[MOST_PLACES];
        private final int[] order = new int[MOST_PLACES];
        /** The places on the way to the mouth, both ends too: bits. */
        private final int[] ways = new int[MOST_PLACES];

        void form(Told told, Course course) {
            places = told.places;
            System.arraycopy(told.length, 0, length, 0, MOST_PLACES);
            int lined = places > 0 ? 1 : 0;
            line[0] = MOUTH;
            far[0] = 0;
            ways[0] = bit(MOUTH);
            for (int i = 0; i < lined; i++) {
                int below = line[i];
                for (int p = 1; p < places && lined < places; p++) {
                    if (course.into[p] == below) {
                        far[p] = far[below] + length[p];
                        ways[p] = ways[below] | bit(p);
                        line[lined] = p;
                        lined++;
                    }
                }
            }
            countAbove(course);
        }

        private void countAbove(Course course) {
            Arrays.fill(above, 0);
            for (int i = places - 1; i > 0; i--) {
                int p = line[i];
                above[course.into[p]] += above[p] + 1;
            }
        }

        int orderOf(Course course, int place) {
            for (int i = places - 1; i >= 0; i--) {
                int greatest = 0;
                int many = 0;
                for (int p = 1; p < places; p++) {
                    if (course.into[p] == line[i] && order[p] >= greatest) {
                        many = order[p] == greatest ? many + 1 : 1;
                        greatest = order[p];
                    }
                }
                order[line[i]] = many == 1 ? greatest : greatest + 1;
            }
            return order[place];
        }

        boolean isSource(int place) {
            return place > MOUTH && place < places && above[place] == 0;
        }

        int sources() {
            int bits = 0;
            for (int p = 1; p < places; p++) {
                if (above[p] == 0) {
                    bits |= bit(p);
                }
            }
            return bits;
        }

        int comingBy(int place) {
            int bits = 0;
            for (int p = 0; p < places; p++) {
                if (has(ways[p], place)) {
                    bits |= bit(p);
                }
            }
            return bits;
        }

        int greatestFar() {
            int most = 0;
            for (int p = 0; p < places; p++) {
                most = Math.max(most, far[p]);
            }
            return most;
        }

        /** The most places on a way from a source; the mouth alone has none. */
        int deepest() {
            int most = 0;
            for (int p = 1; p < places; p++) {
                most = Math.max(most, Integer.bitCount(ways[p]));
            }
            return most;
        }

        /** All stretches there and back, but for the way back from the farthest one. */
        int tourOf(int sources) {
            int seen = 0;
            int farthest = 0;
            for (int p = 1; p < places; p++) {
                if (has(sources, p)) {
                    seen |= ways[p];
                    farthest = Math.max(farthest, far[p]);
                }
            }
            int lengths = 0;
            for (int p = 1; p < places; p++) {
                if (has(seen, p)) {
                    lengths += length[p];
                }
            }
            return 2 * lengths - farthest;
        }

        int meeting(int place, int other) {
            int both = ways[place] & ways[other];
            int met = MOUTH;
            for (int p = 1; p < places; p++) {
                if (has(both, p) && far[p] > far[met]) {
                    met = p;
                }
            }
            return met;
        }
    }

    /** The water of one time, and what the laws tell of it. */
    private static final class River {
        private static final int MOST_RAINS = 999;
        private static final int MOST_CLAIM = 99999;

        private final Shape shape = new Shape();
        private final Code code = new Code();
        private final int[] rains = new int[MOST_PLACES];
        private final int[] flow = new int[MOST_PLACES];
        private final int[] claims = new int[MOST_PLACES];
        private Told told = null;
        private Course course = null;

        /** Takes the course as it is, without a storm. */
        void look(Told text, Course seen) {
            form(text, seen);
            fall(0);
        }

        private void form(Told text, Course seen) {
            told = text;
            course = seen;
            shape.form(text, seen);
        }

        /** What comes down and flows in this month, with so much more rain everywhere. */
        private void fall(int more) {
            rainDown(more);
            run(course.dams);
        }

        private void rainDown(int more) {
            for (int p = 0; p < shape.places; p++) {
                rains[p] = held(tells(Told.RAINS, p, 0), 0, MOST_RAINS) + more;
            }
        }

        /** What flows where, with these dams. */
        void run(int dams) {
            System.arraycopy(rains, 0, flow, 0, MOST_PLACES);
            for (int i = shape.places - 1; i > 0; i--) {
                int p = shape.line[i];
                if (!has(dams, p)) {
                    flow[course.into[p]] += flow[p] - dried(p);
                }
            }
        }

        int dried(int place) {
            return held(tells(Told.DRIES, place, flow[place]), 0, flow[place]);
        }

        private int tells(int law, int place, int flowThere) {
            int[] vars = code.vars;
            vars[Code.RAIN] = told.rain[place];
            vars[Code.FAR] = shape.far[place];
            vars[Code.TALE] = told.tale[place];
            vars[Code.MOON] = course.moon();
            vars[Code.FLOW] = flowThere;
            vars[Code.LENGTH] = told.length[place];
            vars[Code.WON] = course.won[place];
            vars[Code.WHICH] = place;
            vars[Code.ABOVE] = shape.above[place];
            return code.answer(told, law);
        }

        int claimOf(int place, int law) {
            return held(tells(Told.ONE + law, place, flow[place]), 0, MOST_CLAIM);
        }

        /** Fills the claims of all sources by a law. */
        void weigh(int law) {
            for (int p = 1; p < shape.places; p++) {
                claims[p] = shape.isSource(p) ? claimOf(p, law) : NONE;
            }
        }

        /** The first source with the greatest of the claims, but for one; NOBODY without sources. */
        int greatestClaim(int but) {
            int best = NOBODY;
            for (int p = 1; p < shape.places; p++) {
                if (p != but && shape.isSource(p) && (best < 0 || claims[p] > claims[best])) {
                    best = p;
                }
            }
            return best;
        }

        int rankOf(int place) {
            int ahead = 0;
            for (int p = 1; p < shape.places; p++) {
                if (claims[p] > claims[place] || claims[p] == claims[place] && p < place) {
                    ahead++;
                }
            }
            return ahead;
        }

        int winnerBy(int law) {
            weigh(law);
            return greatestClaim(NONE);
        }

        int rainsOf(int bits) {
            int sum = 0;
            for (int p = 0; p < shape.places; p++) {
                if (has(bits, p)) {
                    sum += rains[p];
                }
            }
            return sum;
        }

        /** The month whose rain has fallen goes by. */
        private void endMonth() {
            int winner = winnerBy(course.rules);
            if (winner > MOUTH) {
                course.pay(winner, told.prize);
            }
            course.month++;
        }

        /** The month that is looked at goes by, and the next one is looked at, without storms. */
        void goOn() {
            endMonth();
            fall(0);
        }

        /** So many months go by, with the storms of a seed. */
        void goThrough(Told text, Course gone, int months, int seed) {
            form(text, gone);
            for (int i = 0; i < months; i++) {
                fall(text.isStorm(seed, gone.month) ? text.stormRain : 0);
                endMonth();
            }
        }
    }

    /** What was told of the dye. */
    private static final class Dye {
        private static final int MOST_TELLINGS = 20;

        private final int[] where = new int[MOST_TELLINGS];
        private final int[] from = new int[MOST_TELLINGS];
        private final int[] to = new int[MOST_TELLINGS];
        private final boolean[] came = new boolean[MOST_TELLINGS];
        private int size = 0;

        int add(int place, int d, int e, boolean so) {
            if (size >= MOST_TELLINGS) {
                return NONE;
            }
            where[size] = place;
            from[size] = d;
            to[size] = e;
            came[size] = so;
            size++;
            return size - 1;
        }

        /** The sources of which the first k tellings are so: bits. */
        int left(Shape shape, int k) {
            int bits = 0;
            for (int p = 1; p < shape.places; p++) {
                if (shape.isSource(p) && isSo(shape, p, k)) {
                    bits |= bit(p);
                }
            }
            return bits;
        }

        private boolean isSo(Shape shape, int source, int k) {
            boolean so = true;
            for (int i = 0; i < k && i < size; i++) {
                int behind = shape.far[source] - shape.far[where[i]];
                boolean by = has(shape.ways[source], where[i]) && isWithin(behind, from[i], to[i]);
                so = so && by == came[i];
            }
            return so;
        }
    }

    /** The tokens of a text, each with its kind, its value and its byte. */
    private static final class Tokens {
        private static final int MOST = 400;
        private static final int LONGEST_NAME = 8;
        private static final int LONGEST_INT = 4;
        /** The words in quotes; a word's kind is its place here. */
        private static final String WORDS =
            "mouth place rains dries one two three storm prize seed if then else rain far tale month flow length won which above ";
        private static final int MANY_WORDS = 22;
        private static final String SIGNS = ";=+-*/<()";

        private static final int MOUTH_WORD = 0;
        private static final int PLACE_WORD = 1;
        private static final int RAINS_WORD = 2;
        private static final int THREE_WORD = 6;
        private static final int STORM_WORD = 7;
        private static final int PRIZE_WORD = 8;
        private static final int SEED_WORD = 9;
        private static final int IF = 10;
        private static final int THEN = 11;
        private static final int ELSE = 12;
        private static final int FIRST_VAR = 13;
        private static final int NAME = 22;
        private static final int INT = 23;
        private static final int FIRST_SIGN = 24;
        private static final int SEMICOLON = 24;
        private static final int EQUALS = 25;
        private static final int PLUS = 26;
        private static final int MINUS = 27;
        private static final int STAR = 28;
        private static final int SLASH = 29;
        private static final int LESS = 30;
        private static final int OPEN = 31;
        private static final int CLOSE = 32;
        private static final int END = 33;
        private static final int NO_TOKEN = 34;

        private final long[] words = new long[MANY_WORDS];
        /** One more than a text may have, and the end. */
        private final int[] kinds = new int[MOST + 2];
        private final long[] values = new long[MOST + 2];
        private final int[] places = new int[MOST + 2];
        private int size = 0;

        Tokens() {
            int word = 0;
            for (int i = 0; i < WORDS.length() && word < MANY_WORDS; i++) {
                char c = WORDS.charAt(i);
                if (c == ' ') {
                    word++;
                } else {
                    words[word] = withLetter(words[word], c);
                }
            }
        }

        /** Letters make a number, so that names are alike if their numbers are. */
        private static long withLetter(long letters, int c) {
            return letters * 32 + (c - 'a' + 1);
        }

        /** Takes the tokens up to the end, to what is none, or to the first too many. */
        void scan(byte[] text, int length) {
            size = 0;
            int at = 0;
            boolean goesOn = true;
            for (int i = 0; i <= MOST && goesOn; i++) {
                at = pastBlanks(text, length, at);
                int c = at < length ? text[at] : 0;
                if (at >= length) {
                    add(END, 0, length);
                } else if (isLetter(c)) {
                    at = addLetters(text, length, at);
                } else if (isDigit(c)) {
                    at = addDigits(text, length, at);
                } else {
                    int sign = c > 0 ? SIGNS.indexOf((char) c) : -1;
                    add(sign < 0 ? NO_TOKEN : FIRST_SIGN + sign, 0, at);
                    at++;
                }
                goesOn = size > 0 && kinds[size - 1] < END;
            }
        }

        private int addLetters(byte[] text, int length, int from) {
            long letters = 0;
            int at = from;
            for (; at < length && isLetter(text[at]); at++) {
                letters = at - from < LONGEST_NAME ? withLetter(letters, text[at]) : 0;
            }
            add(at - from > LONGEST_NAME ? NO_TOKEN : kindOf(letters), letters, from);
            return at;
        }

        private int addDigits(byte[] text, int length, int from) {
            int value = 0;
            int at = from;
            for (; at < length && isDigit(text[at]); at++) {
                value = at - from < LONGEST_INT ? value * 10 + (text[at] - '0') : 0;
            }
            add(at - from > LONGEST_INT ? NO_TOKEN : INT, value, from);
            return at;
        }

        private int kindOf(long letters) {
            int kind = NAME;
            for (int i = 0; i < MANY_WORDS; i++) {
                if (words[i] == letters) {
                    kind = i;
                }
            }
            return kind;
        }

        private void add(int kind, long value, int place) {
            if (size < kinds.length) {
                kinds[size] = kind;
                values[size] = value;
                places[size] = place;
                size++;
            }
        }

        private static int pastBlanks(byte[] text, int length, int from) {
            int at = from;
            while (at < length && (text[at] == 32 || text[at] == 9 || text[at] == 10 || text[at] == 13)) {
                at++;
            }
            return at;
        }

        private static boolean isLetter(int c) {
            return c >= 'a' && c <= 'z';
        }

        private static boolean isDigit(int c) {
            return c >= '0' && c <= '9';
        }
    }

    /** Reads a text; from the first fault of syntax or room on it sees no more tokens. */
    private static final class Parser {
        private static final int SYNTAX = 1;
        private static final int ROOM = 2;
        private static final int TWICE = 3;
        private static final int UNKNOWN = 4;
        private static final int WRONG = 5;
        private static final int MOST_IFS = 4;
        private static final int MOST_OPEN = 6;

        private final Tokens tokens = new Tokens();
        private Told told = null;
        /** The token at hand: which one, its kind (none behind a fault), its value, its byte. */
        private int next = 0;
        private int kind = Tokens.NO_TOKEN;
        private long value = 0;
        private int atByte = NONE;
        private boolean mouthTold = false;
        private int placesTold = 0;
        private int fault = 0;
        private int faultPlace = NONE;
        /** The first fault of those that count only if the text can be gone through. */
        private int lateFault = 0;
        private int latePlace = NONE;

        int parse(byte[] text, int length, Told into) {
            tokens.scan(text, length);
            told = into;
            told.clear();
            mouthTold = false;
            placesTold = 0;
            fault = 0;
            faultPlace = NONE;
            lateFault = 0;
            latePlace = NONE;
            goTo(0);
            for (int i = 0; i <= Tokens.MOST && fault == 0 && kind != Tokens.END; i++) {
                telling();
            }
            if (fault == 0) {
                fault = lateFault;
                faultPlace = latePlace;
            }
            told.places = mouthTold ? 1 + placesTold : 0;
            return fault;
        }

        private void telling() {
            if (kind == Tokens.MOUTH_WORD) {
                mouth();
            } else if (kind == Tokens.PLACE_WORD) {
                newPlace();
            } else if (isWithin(kind, Tokens.RAINS_WORD, Tokens.THREE_WORD)) {
                law(kind - Tokens.RAINS_WORD);
            } else if (kind == Tokens.STORM_WORD) {
                take(kind);
                told.stormChance = number(0, 100);
                told.stormRain = number(0, 99);
            } else if (kind == Tokens.PRIZE_WORD) {
                take(kind);
                told.prize = number(0, 99);
            } else if (kind == Tokens.SEED_WORD) {
                take(kind);
                told.seed = number(0, MOST_TOLD);
            } else {
                fail(SYNTAX);
            }
            take(Tokens.SEMICOLON);
        }

        private void mouth() {
            if (mouthTold) {
                fail(ROOM);
            }
            take(Tokens.MOUTH_WORD);
            long name = newName();
            if (fault == 0) {
                mouthTold = true;
                told.name[MOUTH] = name;
                told.setPlace(MOUTH, MOUTH, 0, 0, 0);
            }
        }

        private void newPlace() {
            if (placesTold >= MOST_PLACES - 1) {
                fail(ROOM);
            }
            take(Tokens.PLACE_WORD);
            long name = newName();
            int into = knownName();
            int length = number(1, 99);
            int rain = number(0, 99);
            int tale = number(0, 99);
            if (fault == 0 && placesTold < MOST_PLACES - 1) {
                placesTold++;
                told.name[placesTold] = name;
                told.setPlace(placesTold, into, length, rain, tale);
            }
        }

        private long newName() {
            long name = value;
            if (kind == Tokens.NAME && placeNamed(name) != NONE) {
                failLate(TWICE);
            }
            take(Tokens.NAME);
            return name;
        }

        /** The place of a name that is told ahead; the mouth if there is none, which is a fault. */
        private int knownName() {
            int place = placeNamed(value);
            if (kind == Tokens.NAME && place == NONE) {
                failLate(UNKNOWN);
            }
            take(Tokens.NAME);
            return Math.max(MOUTH, place);
        }

        private int placeNamed(long name) {
            for (int p = mouthTold ? 0 : 1; p <= placesTold && p < MOST_PLACES; p++) {
                if (told.name[p] == name) {
                    return p;
                }
            }
            return NONE;
        }

        private int number(int low, int high) {
            int number = (int) value;
            if (kind == Tokens.INT && !isWithin(number, low, high)) {
                failLate(WRONG);
            }
            take(Tokens.INT);
            return number;
        }

        private void law(int which) {
            take(Tokens.RAINS_WORD + which);
            take(Tokens.EQUALS);
            int start = told.size;
            for (int ifs = 0; ifs <= MOST_IFS && kind == Tokens.IF; ifs++) {
                if (ifs == MOST_IFS) {
                    fail(ROOM);
                }
                take(Tokens.IF);
                sum(0);
                take(Tokens.LESS);
                sum(0);
                take(Tokens.THEN);
                int unless = told.size;
                told.addStep(Code.UNLESS_LESS, 0);
                sum(0);
                take(Tokens.ELSE);
                told.addStep(Code.ANSWER, 0);
                told.setValue(unless, told.size);
            }
            sum(0);
            told.addStep(Code.ANSWER, 0);
            told.start[which] = start;
        }

        private void sum(int open) {
            product(open);
            for (int i = 0; i <= Tokens.MOST && isWithin(kind, Tokens.PLUS, Tokens.MINUS); i++) {
                int sign = kind;
                take(sign);
                product(open);
                told.addStep(sign == Tokens.PLUS ? Code.ADD : Code.TAKE, 0);
            }
        }

        private void product(int open) {
            unit(open);
            for (int i = 0; i <= Tokens.MOST && isWithin(kind, Tokens.STAR, Tokens.SLASH); i++) {
                int sign = kind;
                take(sign);
                unit(open);
                told.addStep(sign == Tokens.STAR ? Code.TIMES : Code.DIVIDE, 0);
            }
        }

        private void unit(int open) {
            if (kind == Tokens.INT) {
                told.addStep(Code.PUSH, (int) value);
                take(kind);
            } else if (kind >= Tokens.FIRST_VAR && kind < Tokens.NAME) {
                told.addStep(Code.LOAD, kind - Tokens.FIRST_VAR);
                take(kind);
            } else if (kind == Tokens.OPEN && open < MOST_OPEN) {
                take(kind);
                sum(open + 1);
                take(Tokens.CLOSE);
            } else {
                fail(kind == Tokens.OPEN ? ROOM : SYNTAX);
            }
        }

        /** Goes on behind a token that must be of this kind. */
        private void take(int wanted) {
            if (kind != wanted) {
                fail(SYNTAX);
            } else if (next >= Tokens.MOST) {
                fail(ROOM);
            } else {
                goTo(next + 1);
            }
        }

        private void goTo(int token) {
            boolean there = token >= 0 && token < tokens.size;
            next = token;
            kind = there ? tokens.kinds[token] : Tokens.NO_TOKEN;
            value = there ? tokens.values[token] : 0;
            atByte = there ? tokens.places[token] : NONE;
        }

        private void fail(int number) {
            if (fault == 0) {
                fault = number;
                faultPlace = atByte;
                kind = Tokens.NO_TOKEN;
            }
        }

        private void failLate(int number) {
            if (lateFault == 0) {
                lateFault = number;
                latePlace = atByte;
            }
        }
    }
}
