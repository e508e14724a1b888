/** Oaths by permit: a town of up to six ones, their hours told as a text, and what comes of them. */
public final class OathPermit {
    public static final int UNKNOWN = -1, OUTSIDE = -2, STATE = -3, FULL = -4, NO = -5, NONE = -6;
    public static final long GONE = -1000000000000000000L;

    private static final int ONES = 6;
    private static final int ALL_CAUSES = 15;
    private static final int MOST_LIMIT = 20;
    private static final int MOST_EARS = 9;
    private static final int MOST_STAMPS = 99;
    private static final int MOST_PURSE = 999;
    private static final int MOST_YARD = 9;
    private static final int MOST_SIGNS = 60;
    private static final int MOST_SIGHTS = 8;
    private static final int IMAGES = 2;
    private static final int HOURS = 6;
    private static final int MOST_DEALT = 20;
    private static final int MOST_STRENGTH = 9;
    private static final int MOST_PERMITS = 6;
    private static final int SIX_DIGITS = 999999;

    // what is known of a one, in the order in which told() numbers it
    private static final int TEMPER = 0, PERMIT = 1, STAMPS = 2, PURSE = 3, YARD = 4, CAUSE = 5;
    private static final int FACTS = 6;
    private static final int BEHIND_FACTS = 5;

    // why an act can not be; of several reasons the least is told
    private static final int CAN_BE = 0, NO_SUCH_ONE = 1, SAME_PLACE = 2, TOO_MILD = 3;
    private static final int NOT_PERMITTED = 4, FEW_STAMPS = 5, NO_TRADE = 6;

    private final Town town = new Town();
    private final Pad pad = new Pad();
    private final Trial trial = new Trial();
    private final Town[] images = new Town[IMAGES];
    private final Thrift thrift = new Thrift();
    private final Dealing dealing = new Dealing();
    private final Seating seating = new Seating();
    private final Covering covering = new Covering();
    private final Odds odds = new Odds();

    public OathPermit() {
    }

    // ---- 1 ones, the town

    public int one(int one, int temper, int stamps, int purse, int yard) {
        if (!within(one, 0, ONES - 1)) {
            return UNKNOWN;
        }
        if (!within(temper, 0, town.limit) || !within(stamps, 0, MOST_STAMPS)
                || !within(purse, 0, MOST_PURSE) || !within(yard, 0, MOST_YARD)) {
            return OUTSIDE;
        }
        town.settle(one, temper, stamps, purse, yard);
        return town.count();
    }

    public int leave(int one) {
        if (!town.has(one)) {
            return UNKNOWN;
        }
        town.remove(one);
        return town.count();
    }

    public int permit(int one, int causes) {
        if (!town.has(one)) {
            return UNKNOWN;
        }
        if (!within(causes, 0, ALL_CAUSES)) {
            return OUTSIDE;
        }
        int before = town.get(one, PERMIT);
        town.put(one, PERMIT, causes);
        return before;
    }

    public int set(int which, int v) {
        if (which == 0) {
            return setLimit(v);
        }
        if (which == 1) {
            return setEars(v);
        }
        return OUTSIDE;
    }

    private int setLimit(int v) {
        if (!within(v, 1, MOST_LIMIT)) {
            return OUTSIDE;
        }
        if (town.highestTemper() > v) {
            return STATE;
        }
        int before = town.limit;
        town.limit = v;
        return before;
    }

    private int setEars(int v) {
        if (!within(v, 0, MOST_EARS)) {
            return OUTSIDE;
        }
        int before = town.ears;
        town.ears = v;
        return before;
    }

    public int say(int sign) {
        if (!within(sign, 33, 126)) {
            return OUTSIDE;
        }
        if (pad.count >= MOST_SIGNS) {
            return FULL;
        }
        pad.add(sign);
        return pad.count;
    }

    public int wipe() {
        int before = pad.count;
        pad.count = 0;
        return before;
    }

    public int fault() {
        return pad.firstFault();
    }

    // ---- 2 hours

    public int judge(int what) {
        if (!within(what, 0, 2)) {
            return OUTSIDE;
        }
        int refusal = playPad();
        if (refusal == NO) {
            return NO;
        }
        if (what == 2) {
            return refusal == STATE ? STATE : trial.slips;
        }
        if (refusal != STATE) {
            return NONE;
        }
        return what == 0 ? trial.acts : trial.reason;
    }

    public int behind(int one, int what) {
        if (!town.has(one)) {
            return UNKNOWN;
        }
        if (!within(what, 0, BEHIND_FACTS - 1)) {
            return OUTSIDE;
        }
        int refusal = playPad();
        if (refusal != 0) {
            return refusal;
        }
        // behind() leaves out the permit, which told() numbers 1
        return trial.town.get(one, what == 0 ? TEMPER : what + 1);
    }

    public int slipped(int what) {
        if (!within(what, 0, 3)) {
            return OUTSIDE;
        }
        int refusal = playPad();
        if (refusal != 0) {
            return refusal;
        }
        switch (what) {
            case 0:
                return trial.firstSlip;
            case 1:
                return trial.firstWho;
            case 2:
                return trial.firstHeard;
            default:
                return trial.paid;
        }
    }

    public int done() {
        int refusal = playPad();
        if (refusal != 0) {
            return refusal;
        }
        town.takeFrom(trial.town);
        pad.count = 0;
        return trial.acts;
    }

    public int hears(int one) {
        return town.has(one) ? town.hearers(one) : UNKNOWN;
    }

    /** Tries the whole pad: 0, or NO for a fault, or STATE for an act that can not be. */
    private int playPad() {
        if (pad.firstFault() != NONE) {
            return NO;
        }
        trial.begin(town);
        for (int place = 0; place < pad.count; place += Math.max(1, pad.lengthAt(place))) {
            trial.attempt(pad, place);
            if (trial.reason != CAN_BE) {
                return STATE;
            }
        }
        return 0;
    }

    // ---- 3 stamps, seats, odds

    public int spend(int v, int n, int weights, int what) {
        if (!within(v, 0, town.limit) || !within(n, 0, MOST_DEALT)
                || !within(weights, 0, SIX_DIGITS) || !within(what, 0, 2)) {
            return OUTSIDE;
        }
        thrift.reckon(weights, town.limit);
        int slips = thrift.fewestSlips(v, n);
        if (what == 0) {
            return slips;
        }
        return what == 1 ? thrift.fewestStamps(0, v, slips) : thrift.strengths(v, slips);
    }

    public int deal(int n, int weights, int one) {
        if (one != -1 && !town.has(one)) {
            return UNKNOWN;
        }
        if (!within(n, 0, MOST_DEALT) || !within(weights, 0, SIX_DIGITS)) {
            return OUTSIDE;
        }
        if (town.there == 0) {
            return 0;
        }
        thrift.reckon(weights, town.limit);
        dealing.reckon(town, thrift);
        return one == -1 ? dealing.fewestFrom(0, n) : dealing.partOf(one, n);
    }

    public int seats(int v, int what) {
        if (!within(v, 0, 2 * MOST_LIMIT) || !within(what, 0, 1)) {
            return OUTSIDE;
        }
        seating.reckon(town, v);
        return what == 0 ? seating.rows() : seating.firstRow();
    }

    public int cover(int a, int b, int one, int two, int what) {
        if (!within(a, 0, MOST_PERMITS) || !within(b, 0, MOST_PERMITS)
                || !within(one, 0, SIX_DIGITS) || !within(two, 0, SIX_DIGITS) || !within(what, 0, 1)) {
            return OUTSIDE;
        }
        covering.reckon(town, one, two);
        return what == 0 ? covering.mostFrom(0, a, b) : covering.holders(a, b);
    }

    public long risk(int v, int m, int w, int t, int what, int part) {
        if (!within(v, 0, town.limit) || !within(m, 0, 8) || !within(w, 1, 9)
                || !within(t, 0, 10) || !within(what, 0, 1) || !within(part, 0, 1)) {
            return GONE + OUTSIDE;
        }
        odds.begin(v, town.limit);
        for (int hour = 0; hour < m; hour++) {
            odds.passHour(w, t, what == 1);
        }
        long upper = what == 0 ? odds.calm() : odds.slips;
        return (part == 0 ? upper : odds.whole) / commonDivisor(upper, odds.whole);
    }

    /** Never less than 1, so that it can divide. */
    private static long commonDivisor(long a, long b) {
        long big = a;
        long small = b;
        for (int step = 0; step < 1000 && small != 0; step++) {
            long rest = big % small;
            big = small;
            small = rest;
        }
        return Math.max(1, big);
    }

    // ---- 4 who swore, quarrels

    public int seen(int one, boolean heard) {
        if (!town.has(one)) {
            return UNKNOWN;
        }
        if (town.sights >= MOST_SIGHTS) {
            return FULL;
        }
        town.addSight(one, heard);
        return town.sights;
    }

    public int forget() {
        int before = town.sights;
        town.sights = 0;
        return before;
    }

    public int who() {
        return town.suspects();
    }

    public int ask(int what) {
        if (!within(what, 0, 1)) {
            return OUTSIDE;
        }
        int suspects = town.suspects();
        if (suspects == 0) {
            return NONE;
        }
        int best = NONE;
        int fewest = ONES + 1;
        for (int one = 0; one < ONES; one++) {
            int left = town.has(one) ? town.mostLeft(suspects, one) : ONES + 1;
            if (left < fewest) {
                fewest = left;
                best = one;
            }
        }
        return what == 0 ? best : fewest;
    }

    public int quarrel(int n, int k, int what) {
        if (!within(n, 0, 99) || !within(k, 1, 9) || !within(what, 0, 1)) {
            return OUTSIDE;
        }
        // who leaves a multiple of k + 1 can always fill the next turn up to k + 1 again
        int first = n % (k + 1);
        if (what == 0) {
            return first == 0 ? 0 : 1;
        }
        return first == 0 ? NONE : first;
    }

    public int year(int seed, int m, int what) {
        if (!within(seed, 0, 9999) || !within(m, 1, 99) || !within(what, 0, 2)) {
            return OUTSIDE;
        }
        trial.begin(town);
        int x = seed;
        for (int act = 0; act < m; act++) {
            x = (75 * x + 74) % 65537;
            trial.draw(x);
        }
        if (what == 0) {
            return trial.slips;
        }
        return what == 1 ? trial.paid : trial.town.allTempers();
    }

    public int image(int k) {
        if (!within(k, 0, IMAGES - 1)) {
            return OUTSIDE;
        }
        if (images[k] == null) {
            images[k] = new Town();
        }
        images[k].takeFrom(town);
        return 1;
    }

    public int restore(int k) {
        if (!within(k, 0, IMAGES - 1)) {
            return OUTSIDE;
        }
        if (images[k] == null) {
            return STATE;
        }
        town.takeFrom(images[k]);
        return 1;
    }

    public int told(int what) {
        switch (what) {
            case 0:
                return pad.count;
            case 1:
                return town.there;
            case 2:
                return town.limit;
            case 3:
                return town.ears;
            case 4:
                return town.sights;
            default:
                return toldOfOne(what);
        }
    }

    private int toldOfOne(int what) {
        if (!within(what, 10, 10 * ONES + FACTS - 1)) {
            return OUTSIDE;
        }
        int one = what / 10 - 1;
        int fact = what % 10;
        return town.has(one) && fact < FACTS ? town.get(one, fact) : OUTSIDE;
    }

    private static boolean within(int v, int least, int most) {
        return v >= least && v <= most;
    }

    private static int digitOf(int number, int place) {
        int rest = number;
        for (int i = place + 1; i < ONES; i++) {
            rest /= 10;
        }
        return rest % 10;
    }

    /** The ones, LIMIT, EARS and the sights: all that an image keeps. */
    static final class Town {
        private final int[] facts = new int[ONES * FACTS];
        private final int[] asked = new int[MOST_SIGHTS];
        int there = 0;
        int limit = 9;
        int ears = 2;
        int sights = 0;
        private int heardBits = 0;

        void takeFrom(Town other) {
            System.arraycopy(other.facts, 0, facts, 0, ONES * FACTS);
            System.arraycopy(other.asked, 0, asked, 0, MOST_SIGHTS);
            there = other.there;
            limit = other.limit;
            ears = other.ears;
            sights = other.sights;
            heardBits = other.heardBits;
        }

        boolean has(int one) {
            return one >= 0 && one < ONES && (there >> one & 1) == 1;
        }

        int count() {
            return Integer.bitCount(there);
        }

        int get(int one, int fact) {
            return one >= 0 && one < ONES && fact >= 0 && fact < FACTS ? facts[one * FACTS + fact] : 0;
        }

        void put(int one, int fact, int v) {
            if (one >= 0 && one < ONES && fact >= 0 && fact < FACTS) {
                facts[one * FACTS + fact] = v;
            }
        }

        void settle(int one, int temper, int stamps, int purse, int yard) {
            there |= 1 << one;
            put(one, TEMPER, temper);
            put(one, PERMIT, 0);
            put(one, STAMPS, stamps);
            put(one, PURSE, purse);
            put(one, YARD, yard);
            put(one, CAUSE, NONE);
        }

        void remove(int one) {
            there &= ~(1 << one);
        }

        int highestTemper() {
            int highest = 0;
            for (int one = 0; one < ONES; one++) {
                if (has(one)) {
                    highest = Math.max(highest, get(one, TEMPER));
                }
            }
            return highest;
        }

        int allTempers() {
            int sum = 0;
            for (int one = 0; one < ONES; one++) {
                if (has(one)) {
                    sum += get(one, TEMPER);
                }
            }
            return sum;
        }

        int hearers(int one) {
            int yard = get(one, YARD);
            int bits = 0;
            for (int other = 0; other < ONES; other++) {
                if (other != one && has(other) && Math.abs(yard - get(other, YARD)) <= ears) {
                    bits |= 1 << other;
                }
            }
            return bits;
        }

        /** Whether this one, asked, says that it heard, if that one slipped; who slipped did. */
        private boolean saysHeard(int listener, int slipper) {
            return listener == slipper || (hearers(slipper) >> listener & 1) == 1;
        }

        void addSight(int one, boolean heard) {
            if (within(sights, 0, MOST_SIGHTS - 1)) {
                int bit = 1 << sights;
                asked[sights] = one;
                heardBits = heard ? heardBits | bit : heardBits & ~bit;
                sights++;
            }
        }

        int suspects() {
            int bits = 0;
            for (int one = 0; one < ONES; one++) {
                if (has(one) && allSightsFit(one)) {
                    bits |= 1 << one;
                }
            }
            return bits;
        }

        private boolean allSightsFit(int one) {
            for (int i = 0; i < sights && i < MOST_SIGHTS; i++) {
                boolean heard = (heardBits >> i & 1) == 1;
                if (!has(asked[i]) || saysHeard(asked[i], one) != heard) {
                    return false;
                }
            }
            return true;
        }

        /** How many of the suspects are left at the most when this one is asked. */
        int mostLeft(int suspects, int listener) {
            int ifHeard = 0;
            for (int one = 0; one < ONES; one++) {
                if ((suspects >> one & 1) == 1 && saysHeard(listener, one)) {
                    ifHeard++;
                }
            }
            return Math.max(ifHeard, Integer.bitCount(suspects) - ifHeard);
        }
    }

    /** The signs of the hours that are told. */
    static final class Pad {
        private final int[] signs = new int[MOST_SIGNS];
        int count = 0;

        void add(int sign) {
            if (within(count, 0, MOST_SIGNS - 1)) {
                signs[count] = sign;
                count++;
            }
        }

        /** The sign at a place; 0, which is no sign, where none stands. */
        int at(int place) {
            return place >= 0 && place < count && place < MOST_SIGNS ? signs[place] : 0;
        }

        int firstFault() {
            int start = 0;
            for (int place = 0; place < count; place++) {
                if (!canStand(start, place)) {
                    return place;
                }
                if (place - start + 1 == lengthAt(start)) {
                    start = place + 1;
                }
            }
            return start < count ? count : NONE;
        }

        /** How many signs the act that begins at this place has when it is whole. */
        int lengthAt(int start) {
            if (at(start) == '.') {
                return 1;
            }
            return at(start + 1) == '>' ? 4 : 3;
        }

        private boolean canStand(int start, int place) {
            int sign = at(place);
            switch (place - start) {
                case 0:
                    return sign == '.' || oneOf(sign) != NONE;
                case 1:
                    return sign == '!' || sign == '>' || sign == '@' || causeOf(sign) != NONE;
                case 2:
                    return within(sign, at(start + 1) == '@' ? '0' : '1', '9');
                default:
                    return oneOf(sign) != NONE;
            }
        }

        static int oneOf(int sign) {
            return within(sign, 'A', 'F') ? sign - 'A' : NONE;
        }

        static int causeOf(int sign) {
            switch (sign) {
                case 'h':
                    return 0;
                case 'r':
                    return 1;
                case 't':
                    return 2;
                case 'k':
                    return 3;
                default:
                    return NONE;
            }
        }
    }

    /** A copy of the town in which acts are tried one by one, and what came of them. */
    static final class Trial {
        final Town town = new Town();
        int acts = 0;
        int reason = CAN_BE;
        int slips = 0;
        int paid = 0;
        int firstSlip = NONE;
        int firstWho = NONE;
        int firstHeard = 0;

        void begin(Town from) {
            town.takeFrom(from);
            acts = 0;
            reason = CAN_BE;
            slips = 0;
            paid = 0;
            firstSlip = NONE;
            firstWho = NONE;
            firstHeard = 0;
        }

        /** Does the act that stands at this place of the pad, or keeps the reason against it. */
        void attempt(Pad pad, int place) {
            int one = Pad.oneOf(pad.at(place));
            int kind = pad.at(place + 1);
            int digit = pad.at(place + 2) - '0';
            if (pad.at(place) == '.') {
                reason = endHour();
            } else if (kind == '!') {
                reason = swear(one, digit);
            } else if (kind == '>') {
                reason = sell(one, digit, Pad.oneOf(pad.at(place + 3)));
            } else if (kind == '@') {
                reason = walk(one, digit);
            } else {
                reason = suffer(one, Pad.causeOf(kind), digit);
            }
            if (reason == CAN_BE) {
                acts++;
            }
        }

        /** Does the act that a year draws by x, if it can be. */
        void draw(int x) {
            int one = x % 6;
            int choice = x / 48;
            switch (x / 6 % 8) {
                case 0:
                case 1:
                case 2:
                    suffer(one, choice % 4, 1 + x / 192 % 9);
                    break;
                case 3:
                case 4:
                    swear(one, 1 + choice % 5);
                    break;
                case 5:
                    sell(one, 1, choice % 6);
                    break;
                case 6:
                    walk(one, choice % 10);
                    break;
                default:
                    endHour();
                    break;
            }
        }

        private int suffer(int one, int cause, int weight) {
            if (!town.has(one)) {
                return NO_SUCH_ONE;
            }
            int temper = town.get(one, TEMPER) + weight;
            town.put(one, CAUSE, cause);
            town.put(one, TEMPER, temper);
            if (temper > town.limit) {
                slip(one);
            }
            return CAN_BE;
        }

        private void slip(int one) {
            int hearers = Integer.bitCount(town.hearers(one));
            int purse = town.get(one, PURSE);
            int price = Math.min(purse, town.get(one, TEMPER) * hearers);
            town.put(one, PURSE, purse - price);
            town.put(one, TEMPER, 0);
            if (slips == 0) {
                firstSlip = acts;
                firstWho = one;
                firstHeard = hearers;
            }
            slips++;
            paid += price;
        }

        private int swear(int one, int strength) {
            if (!town.has(one)) {
                return NO_SUCH_ONE;
            }
            int temper = town.get(one, TEMPER);
            int stamps = town.get(one, STAMPS);
            int cause = town.get(one, CAUSE);
            if (temper < strength) {
                return TOO_MILD;
            }
            if (cause == NONE || (town.get(one, PERMIT) >> cause & 1) == 0) {
                return NOT_PERMITTED;
            }
            if (stamps < strength) {
                return FEW_STAMPS;
            }
            town.put(one, TEMPER, temper - strength);
            town.put(one, STAMPS, stamps - strength);
            return CAN_BE;
        }

        private int sell(int one, int n, int other) {
            if (!town.has(one) || !town.has(other)) {
                return NO_SUCH_ONE;
            }
            if (one == other) {
                return SAME_PLACE;
            }
            int sellersStamps = town.get(one, STAMPS) - n;
            int buyersStamps = town.get(other, STAMPS) + n;
            int sellersPurse = town.get(one, PURSE) + n;
            int buyersPurse = town.get(other, PURSE) - n;
            if (sellersStamps < 0) {
                return FEW_STAMPS;
            }
            if (buyersPurse < 0 || buyersStamps > MOST_STAMPS || sellersPurse > MOST_PURSE) {
                return NO_TRADE;
            }
            town.put(one, STAMPS, sellersStamps);
            town.put(other, STAMPS, buyersStamps);
            town.put(one, PURSE, sellersPurse);
            town.put(other, PURSE, buyersPurse);
            return CAN_BE;
        }

        private int walk(int one, int yard) {
            if (!town.has(one)) {
                return NO_SUCH_ONE;
            }
            if (town.get(one, YARD) == yard) {
                return SAME_PLACE;
            }
            town.put(one, YARD, yard);
            return CAN_BE;
        }

        private int endHour() {
            for (int one = 0; one < ONES; one++) {
                town.put(one, TEMPER, Math.max(0, town.get(one, TEMPER) - 1));
            }
            return CAN_BE;
        }
    }

    /**
     * By hour, temper and slips: the fewest stamps by which one with that temper slips, from that
     * hour on, so often at the most. Slips are counted, not stamps left, for there are fewer of them.
     * Behind the last hour nobody slips any more: that row stays 0.
     */
    static final class Thrift {
        private static final int TEMPERS = MOST_LIMIT + 1;
        private static final int TALLIES = HOURS + 1;
        private static final int NEVER = 1000;

        private final int[] table = new int[(HOURS + 1) * TEMPERS * TALLIES];
        private final int[] mishaps = new int[HOURS];
        private int limit = 0;

        void reckon(int weights, int townLimit) {
            limit = Math.min(townLimit, MOST_LIMIT);
            for (int hour = HOURS - 1; hour >= 0; hour--) {
                mishaps[hour] = digitOf(weights, hour);
                for (int temper = 0; temper <= limit; temper++) {
                    reckonFrom(hour, temper);
                }
            }
        }

        private void reckonFrom(int hour, int temper) {
            int left = afterMishap(hour, temper);
            int row = (hour * TEMPERS + temper) * TALLIES;
            for (int slips = 0; slips < TALLIES; slips++) {
                table[row + slips] = cheapest(hour + 1, left, slipsLeft(hour, temper, slips));
            }
        }

        private int cheapest(int nextHour, int temper, int slips) {
            if (slips < 0) {
                return NEVER;
            }
            int most = Math.min(MOST_STRENGTH, temper);
            int best = NEVER;
            for (int strength = 0; strength <= most; strength++) {
                int later = fewestStamps(nextHour, afterHour(temper, strength), slips);
                best = Math.min(best, strength + later);
            }
            return best;
        }

        private int afterMishap(int hour, int temper) {
            return slips(hour, temper) ? 0 : temper + mishaps[hour];
        }

        private int slipsLeft(int hour, int temper, int slips) {
            return slips(hour, temper) ? slips - 1 : slips;
        }

        private boolean slips(int hour, int temper) {
            return temper + mishaps[hour] > limit;
        }

        private static int afterHour(int temper, int strength) {
            return Math.max(0, temper - strength - 1);
        }

        int fewestStamps(int hour, int temper, int slips) {
            if (!within(hour, 0, HOURS) || !within(temper, 0, MOST_LIMIT) || !within(slips, 0, HOURS)) {
                return NEVER;
            }
            return table[(hour * TEMPERS + temper) * TALLIES + slips];
        }

        int fewestSlips(int temper, int stamps) {
            for (int slips = 0; slips < HOURS; slips++) {
                if (fewestStamps(0, temper, slips) <= stamps) {
                    return slips;
                }
            }
            return HOURS;
        }

        /** Of the ways that take the fewest stamps for so many slips, the least number. */
        int strengths(int startTemper, int startSlips) {
            int number = 0;
            int temper = startTemper;
            int slips = startSlips;
            for (int hour = 0; hour < HOURS; hour++) {
                int stamps = fewestStamps(hour, temper, slips);
                int left = afterMishap(hour, temper);
                slips = slipsLeft(hour, temper, slips);
                int strength = 0;
                while (strength < MOST_STRENGTH
                        && strength + fewestStamps(hour + 1, afterHour(left, strength), slips) != stamps) {
                    strength++;
                }
                number = 10 * number + strength;
                temper = afterHour(left, strength);
            }
            return number;
        }
    }

    /** By a one and stamps: the fewest slips of it and those behind it when just these are dealt to them. */
    static final class Dealing {
        private static final int SHARES = MOST_DEALT + 1;
        private static final int NEVER = 1000;

        private final int[] alone = new int[ONES * SHARES];
        private final int[] fewest = new int[(ONES + 1) * SHARES];
        private int there = 0;

        void reckon(Town town, Thrift thrift) {
            there = town.there;
            for (int stamps = 0; stamps < SHARES; stamps++) {
                fewest[ONES * SHARES + stamps] = stamps == 0 ? 0 : NEVER;
            }
            for (int one = ONES - 1; one >= 0; one--) {
                for (int stamps = 0; stamps < SHARES; stamps++) {
                    alone[one * SHARES + stamps] = thrift.fewestSlips(town.get(one, TEMPER), stamps);
                }
                for (int stamps = 0; stamps < SHARES; stamps++) {
                    fewest[one * SHARES + stamps] = leastOver(one, stamps);
                }
            }
        }

        private int leastOver(int one, int stamps) {
            int best = NEVER;
            for (int part = 0; part <= mostFor(one, stamps); part++) {
                best = Math.min(best, withPart(one, stamps, part));
            }
            return best;
        }

        private int mostFor(int one, int stamps) {
            return (there >> one & 1) == 1 ? stamps : 0;
        }

        private int withPart(int one, int stamps, int part) {
            boolean isThere = (there >> one & 1) == 1;
            boolean known = within(one, 0, ONES - 1) && within(part, 0, MOST_DEALT);
            return (isThere && known ? alone[one * SHARES + part] : 0) + fewestFrom(one + 1, stamps - part);
        }

        int fewestFrom(int one, int stamps) {
            boolean known = within(one, 0, ONES) && within(stamps, 0, MOST_DEALT);
            return known ? fewest[one * SHARES + stamps] : NEVER;
        }

        /** How many this one gets in the first of the best ways to deal out all. */
        int partOf(int wanted, int n) {
            int left = n;
            int part = 0;
            for (int one = 0; one <= wanted && one < ONES; one++) {
                left -= part;
                part = 0;
                while (part < mostFor(one, left) && withPart(one, left, part) != fewestFrom(one, left)) {
                    part++;
                }
            }
            return part;
        }
    }

    /** By the set of those still to be seated and who was seated last: in how many ways it goes on. */
    static final class Seating {
        private static final int SETS = 1 << ONES;
        private static final int NOBODY = ONES;
        private static final int LASTS = ONES + 1;

        private final int[] ways = new int[SETS * LASTS];
        private final int[] tempers = new int[ONES];
        private int most = 0;
        private int everybody = 0;

        void reckon(Town town, int v) {
            most = v;
            everybody = town.there;
            for (int one = 0; one < ONES; one++) {
                tempers[one] = town.get(one, TEMPER);
            }
            for (int set = 0; set < SETS; set++) {
                boolean needed = (set & ~everybody) == 0;
                for (int last = 0; needed && last < LASTS; last++) {
                    ways[set * LASTS + last] = set == 0 ? 1 : waysOn(set, last);
                }
            }
        }

        private int waysOn(int set, int last) {
            int sum = 0;
            for (int next = 0; next < ONES; next++) {
                sum += waysBy(set, last, next);
            }
            return sum;
        }

        private int waysBy(int set, int last, int next) {
            boolean free = (set >> next & 1) == 1;
            return free && canFollow(last, next) ? ways(set & ~(1 << next), next) : 0;
        }

        private int ways(int set, int last) {
            return within(set, 0, SETS - 1) && within(last, 0, NOBODY) ? ways[set * LASTS + last] : 0;
        }

        private boolean canFollow(int last, int next) {
            return last == NOBODY || tempers[last] + tempers[next] <= most;
        }

        int rows() {
            return ways(everybody, NOBODY);
        }

        int firstRow() {
            if (rows() == 0) {
                return NONE;
            }
            int row = 0;
            int set = everybody;
            int last = NOBODY;
            for (int seat = 0; seat < ONES && set != 0; seat++) {
                int next = 0;
                while (next < ONES - 1 && waysBy(set, last, next) == 0) {
                    next++;
                }
                row = 10 * row + next;
                set &= ~(1 << next);
                last = next;
            }
            return row;
        }
    }

    /** By a one and permits of both causes: the most mishaps of it and those behind it that are covered. */
    static final class Covering {
        private static final int SIZES = MOST_PERMITS + 1;

        private final int[] most = new int[(ONES + 1) * SIZES * SIZES];
        private int there = 0;
        private int first = 0;
        private int second = 0;

        void reckon(Town town, int one, int two) {
            there = town.there;
            first = one;
            second = two;
            for (int who = ONES - 1; who >= 0; who--) {
                for (int a = 0; a < SIZES; a++) {
                    for (int b = 0; b < SIZES; b++) {
                        most[(who * SIZES + a) * SIZES + b] = best(who, a, b);
                    }
                }
            }
        }

        private int best(int who, int a, int b) {
            int best = mostFrom(who + 1, a, b);
            if ((there >> who & 1) == 1) {
                best = Math.max(best, byFirst(who, a, b));
                best = Math.max(best, bySecond(who, a, b));
            }
            return best;
        }

        private int byFirst(int who, int a, int b) {
            return a > 0 ? digitOf(first, who) + mostFrom(who + 1, a - 1, b) : NONE;
        }

        private int bySecond(int who, int a, int b) {
            return b > 0 ? digitOf(second, who) + mostFrom(who + 1, a, b - 1) : NONE;
        }

        int mostFrom(int who, int a, int b) {
            if (!within(who, 0, ONES) || !within(a, 0, MOST_PERMITS) || !within(b, 0, MOST_PERMITS)) {
                return 0;
            }
            return most[(who * SIZES + a) * SIZES + b];
        }

        int holders(int allFirst, int allSecond) {
            int number = 0;
            int a = allFirst;
            int b = allSecond;
            for (int who = 0; who < ONES; who++) {
                int best = mostFrom(who, a, b);
                int holds = 2;
                if ((there >> who & 1) == 0) {
                    holds = 3;
                } else if (byFirst(who, a, b) == best) {
                    holds = 0;
                    a--;
                } else if (bySecond(who, a, b) == best) {
                    holds = 1;
                    b--;
                }
                number = 10 * number + holds;
            }
            return number;
        }
    }

    /** How likely each temper is, in parts of a whole that is ten times as large after each hour. */
    static final class Odds {
        private final long[] parts = new long[MOST_LIMIT + 1];
        private final long[] next = new long[MOST_LIMIT + 1];
        private int limit = 0;
        long whole = 1;
        long slips = 0;

        void begin(int temper, int townLimit) {
            limit = Math.min(townLimit, MOST_LIMIT);
            whole = 1;
            slips = 0;
            for (int i = 0; i <= MOST_LIMIT; i++) {
                parts[i] = i == temper ? 1 : 0;
            }
        }

        /** An hour; who slips in it is counted, and stays among the others only if it goes on. */
        void passHour(int weight, int tenths, boolean goesOn) {
            for (int i = 0; i <= MOST_LIMIT; i++) {
                next[i] = 0;
            }
            long slipping = 0;
            for (int temper = 0; temper <= limit; temper++) {
                long mishap = parts[temper] * tenths;
                int risen = temper + weight;
                next[Math.max(0, temper - 1)] += parts[temper] * (10 - tenths);
                if (risen > limit) {
                    slipping += mishap;
                } else {
                    next[Math.max(0, risen - 1)] += mishap;
                }
            }
            if (goesOn) {
                next[0] += slipping;
            }
            System.arraycopy(next, 0, parts, 0, MOST_LIMIT + 1);
            slips = slips * 10 + slipping;
            whole *= 10;
        }

        long calm() {
            long sum = 0;
            for (int i = 0; i <= MOST_LIMIT; i++) {
                sum += parts[i];
            }
            return sum;
        }
    }
}
