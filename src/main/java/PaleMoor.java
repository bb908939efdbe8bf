import java.util.Arrays;

/** The quarrelling moor on which a pale is mended from the other side; see README.md. */
public final class PaleMoor {
    public static final int NONE = -6, UNKNOWN = -1, OUTSIDE = -2, STATE = -3, FULL = -4, NO = -5;
    public static final long LOST = -1000000000000000000L;

    private static final int FARMS = 7;
    private static final int PAIRS = FARMS * FARMS;
    private static final int FARM_SETS = 1 << FARMS;
    private static final int MOST_STRENGTH = 9;
    private static final int MOST_MILES = 9;
    private static final int MOST_COWS = 99;
    private static final int FIRST_COWS = 5;
    private static final int LAST_DAY = 99;
    private static final int MENDED_BY = 3;

    private static final int MOST_SIGNS = 60;
    private static final int FIRST_SIGN = 33;
    private static final int LAST_SIGN = 126;

    private static final int ONES = 4;
    private static final int FIRST_ROW = 123;
    private static final int LAST_ROW = 3210;

    private static final int MOST_SIGHTS = 8;
    private static final int LAST_SIGHT_DAY = 5;
    private static final int SIGHT_POSTS = 100;
    private static final int FIRST_POSTS = 41;
    private static final int GROWTHS = 10;
    private static final int POST_CASES = FIRST_POSTS * GROWTHS;

    private static final int MOST_RAILS = 60;
    private static final int MOST_WINDS = 12;
    private static final int MOST_WIND = 9;
    private static final int MOST_SEED = 9999;
    private static final int MOST_YEAR_ACTS = 99;

    // The kinds of acts.
    private static final int WALK = 0;
    private static final int MEND = 1;
    private static final int BREAK = 2;
    private static final int WIND = 3;
    private static final int DAY = 4;

    // Why an act can not be; 0 says that it can.
    private static final int THERE_ALREADY = 1;
    private static final int NO_ROAD = 2;
    private static final int HOME_WRONGLY = 3;
    private static final int NO_PALE = 4;
    private static final int STRENGTH_AT_END = 5;
    private static final int NO_PALE_ANYWHERE = 6;
    private static final int DAYS_ARE_OVER = 7;

    private final Whole now = new Whole();
    private final Whole image0 = new Whole();
    private final Whole image1 = new Whole();
    private final Moor trial = new Moor();
    private final Pad pad = new Pad();
    private final Weeks weeks = new Weeks();
    private final Rounds rounds = new Rounds();
    private final Rails rails = new Rails();

    public PaleMoor() {
    }

    // ---- 1 pales, roads, men, cows, weeks

    public int pale(int a, int b, int strength) {
        if (!areTwoFarms(a, b)) {
            return UNKNOWN;
        }
        if (strength < -1 || strength > MOST_STRENGTH) {
            return OUTSIDE;
        }
        now.moor.setStrength(a, b, strength < 0 ? NONE : strength);
        return now.moor.countPales();
    }

    public int road(int a, int b, int miles) {
        if (!areTwoFarms(a, b)) {
            return UNKNOWN;
        }
        if (miles < 0 || miles > MOST_MILES) {
            return OUTSIDE;
        }
        int before = now.moor.milesBetween(a, b);
        now.moor.setMiles(a, b, miles);
        return before;
    }

    public int farm(int farm, int cows, int at) {
        if (!isFarm(farm) || !isFarm(at)) {
            return UNKNOWN;
        }
        if (cows < 0 || cows > MOST_COWS) {
            return OUTSIDE;
        }
        int before = now.moor.placeOf(farm);
        now.moor.settle(farm, cows, at);
        return before;
    }

    public int likes(int side, int one, int row) {
        if (!isOne(side, one)) {
            return UNKNOWN;
        }
        if (!Likings.isRow(row)) {
            return OUTSIDE;
        }
        int before = now.likings.rowOf(side, one);
        now.likings.setRow(side, one, row);
        return before;
    }

    public int say(int sign) {
        if (sign < FIRST_SIGN || sign > LAST_SIGN) {
            return OUTSIDE;
        }
        return pad.add(sign) ? pad.size() : FULL;
    }

    public int wipe() {
        int before = pad.size();
        pad.clear();
        return before;
    }

    public int fault() {
        return pad.faultPlace();
    }

    // ---- 2 weeks

    public int judge(int what) {
        if (!isZeroOrOne(what)) {
            return OUTSIDE;
        }
        if (pad.faultPlace() != NONE) {
            return NO;
        }
        weeks.canBe(pad, now.moor, trial);
        return what == 0 ? weeks.failed : weeks.reason;
    }

    public int done() {
        if (!weeks.canBe(pad, now.moor, trial)) {
            return NO;
        }
        now.moor.copyFrom(trial);
        pad.clear();
        return weeks.acts;
    }

    public int behind(int a, int b) {
        if (!areTwoFarms(a, b)) {
            return UNKNOWN;
        }
        return weeks.canBe(pad, now.moor, trial) ? trial.strengthBetween(a, b) : NO;
    }

    public int goes(int farm, int what) {
        if (!isFarm(farm)) {
            return UNKNOWN;
        }
        if (!isZeroOrOne(what)) {
            return OUTSIDE;
        }
        if (!weeks.canBe(pad, now.moor, trial)) {
            return NO;
        }
        return what == 0 ? trial.placeOf(farm) : trial.cowsOf(farm);
    }

    public int then(int what) {
        if (what < 0 || what > 5) {
            return OUTSIDE;
        }
        if (!weeks.canBe(pad, now.moor, trial)) {
            return NO;
        }
        switch (what) {
            case 0: return trial.countGaps();
            case 1: return weeks.gone;
            case 2: return trial.awayBits();
            case 3: return trial.day;
            case 4: return weeks.gapAct;
            default: return weeks.gap;
        }
    }

    // ---- 3 rounds, mending, weddings

    public int round(int a, int b) {
        if (!isFarm(a) || !isFarm(b)) {
            return UNKNOWN;
        }
        rounds.measure(now.moor);
        return rounds.between(a, b);
    }

    public int mends(int man) {
        if (!isFarm(man)) {
            return UNKNOWN;
        }
        rounds.measure(now.moor);
        return rounds.tour(man, now.moor.toBeMended(man));
    }

    public int steady() {
        return now.likings.countSteady();
    }

    public int wed(int side, int one, int best) {
        if (!isOne(side, one)) {
            return UNKNOWN;
        }
        if (!isZeroOrOne(best)) {
            return OUTSIDE;
        }
        return Likings.partnerIn(now.likings.bestSteady(best), side, one);
    }

    // ---- 4 posts, heaps, gusts

    public int seen(int days, int post, boolean down) {
        if (days < 0 || days > LAST_SIGHT_DAY || post < 0 || post >= SIGHT_POSTS) {
            return OUTSIDE;
        }
        return now.sights.add(days, post, down) ? now.sights.count : FULL;
    }

    public int forget() {
        int before = now.sights.count;
        now.sights.clear();
        return before;
    }

    public int posts(int i) {
        return i == -1 ? now.sights.fitting : now.sights.caseAt(i);
    }

    public int ask(int what) {
        if (!isZeroOrOne(what)) {
            return OUTSIDE;
        }
        int question = now.sights.bestQuestion();
        if (question == NONE || what == 0) {
            return question;
        }
        return now.sights.leftAtMost(question);
    }

    public int heaps(int n, int what) {
        if (n < 0 || n > MOST_RAILS || !isZeroOrOne(what)) {
            return OUTSIDE;
        }
        int less = rails.winningLess(n);
        if (what == 1) {
            return less;
        }
        return less == NONE ? 0 : 1;
    }

    public long gust(int n, int m, int k, int what, int part) {
        boolean windsFit = n >= 1 && n <= MOST_WINDS && m >= 1 && m <= MOST_WIND && k >= 1 && k <= m;
        if (!windsFit || !isZeroOrOne(what) || !isZeroOrOne(part)) {
            return LOST + OUTSIDE;
        }
        long upper = what == 0 ? Gusts.waysOfJust(n, k) : Gusts.sumOfStrongest(n, m);
        return Gusts.partInLowestTerms(upper, Gusts.power(m, n), part);
    }

    public int year(int seed, int m, int what) {
        boolean drawsFit = seed >= 0 && seed <= MOST_SEED && m >= 1 && m <= MOST_YEAR_ACTS;
        if (!drawsFit || what < 0 || what > 2) {
            return OUTSIDE;
        }
        trial.copyFrom(now.moor);
        trial.drawActs(seed, m);
        switch (what) {
            case 0: return trial.countGaps();
            case 1: return Integer.bitCount(trial.awayBits());
            default: return trial.cowsOf(0);
        }
    }

    public int image(int n) {
        if (!isZeroOrOne(n)) {
            return OUTSIDE;
        }
        Whole image = n == 0 ? image0 : image1;
        image.copyFrom(now);
        image.kept = true;
        return 1;
    }

    public int restore(int n) {
        if (!isZeroOrOne(n)) {
            return OUTSIDE;
        }
        Whole image = n == 0 ? image0 : image1;
        if (!image.kept) {
            return STATE;
        }
        now.copyFrom(image);
        return 1;
    }

    public int told(int what) {
        if (what < 0) {
            return OUTSIDE;
        }
        if (what < 10) {
            return toldOfAll(what);
        }
        if (what < 30) {
            return toldOfFarm(what / 10, what % 10);
        }
        if (what < 100) {
            return toldOfOne(what / 10 - 3, what % 10);
        }
        return toldOfPair(what / 100, what / 10 % 10, what % 10);
    }

    private int toldOfAll(int what) {
        switch (what) {
            case 0: return pad.size();
            case 1: return now.moor.countGaps();
            case 2: return now.moor.awayBits();
            case 3: return now.moor.day;
            case 4: return now.sights.count;
            default: return OUTSIDE;
        }
    }

    private int toldOfFarm(int tens, int farm) {
        if (!isFarm(farm)) {
            return OUTSIDE;
        }
        return tens == 1 ? now.moor.placeOf(farm) : now.moor.cowsOf(farm);
    }

    private int toldOfOne(int side, int one) {
        return isOne(side, one) ? now.likings.rowOf(side, one) : OUTSIDE;
    }

    private int toldOfPair(int hundreds, int a, int b) {
        if (!isFarm(a) || !isFarm(b) || hundreds > 2) {
            return OUTSIDE;
        }
        return hundreds == 1 ? now.moor.strengthBetween(a, b) : now.moor.milesBetween(a, b);
    }

    private static boolean isFarm(int number) {
        return number >= 0 && number < FARMS;
    }

    private static boolean areTwoFarms(int a, int b) {
        return isFarm(a) && isFarm(b) && a != b;
    }

    private static boolean isOne(int side, int one) {
        return isZeroOrOne(side) && one >= 0 && one < ONES;
    }

    private static boolean isZeroOrOne(int number) {
        return number == 0 || number == 1;
    }

    /** All that an image keeps. */
    private static final class Whole {
        private final Moor moor = new Moor();
        private final Likings likings = new Likings();
        private final Sights sights = new Sights();
        private boolean kept = false;

        Whole() {
        }

        void copyFrom(Whole other) {
            moor.copyFrom(other.moor);
            likings.copyFrom(other.likings);
            sights.copyFrom(other.sights);
        }
    }

    /** Farms with their pales, roads, men and cows, and the acts that change them. */
    private static final class Moor {
        // Pairs stand at 7 a + b and again at 7 b + a, so that no reader has to order them.
        private final int[] strengths = new int[PAIRS];
        private final int[] roads = new int[PAIRS];
        private final int[] places = new int[FARMS];
        private final int[] herds = new int[FARMS];
        private int day = 0;

        Moor() {
            Arrays.fill(strengths, NONE);
            Arrays.fill(herds, FIRST_COWS);
            for (int man = 0; man < FARMS; man++) {
                places[man] = man;
            }
        }

        void copyFrom(Moor other) {
            System.arraycopy(other.strengths, 0, strengths, 0, PAIRS);
            System.arraycopy(other.roads, 0, roads, 0, PAIRS);
            System.arraycopy(other.places, 0, places, 0, FARMS);
            System.arraycopy(other.herds, 0, herds, 0, FARMS);
            day = other.day;
        }

        /** Answers the strength of the pale between two farms, or NONE. */
        int strengthBetween(int a, int b) {
            return isFarm(a) && isFarm(b) ? strengths[FARMS * a + b] : NONE;
        }

        void setStrength(int a, int b, int strength) {
            if (areTwoFarms(a, b)) {
                strengths[FARMS * a + b] = strength;
                strengths[FARMS * b + a] = strength;
            }
        }

        /** Answers the miles of the road between two farms, or 0. */
        int milesBetween(int a, int b) {
            return isFarm(a) && isFarm(b) ? roads[FARMS * a + b] : 0;
        }

        void setMiles(int a, int b, int miles) {
            if (areTwoFarms(a, b)) {
                roads[FARMS * a + b] = miles;
                roads[FARMS * b + a] = miles;
            }
        }

        int placeOf(int man) {
            return isFarm(man) ? places[man] : NONE;
        }

        int cowsOf(int farm) {
            return isFarm(farm) ? herds[farm] : 0;
        }

        void settle(int farm, int cows, int at) {
            if (isFarm(farm) && isFarm(at)) {
                herds[farm] = cows;
                places[farm] = at;
            }
        }

        int countPales() {
            return countStrengths(0, MOST_STRENGTH);
        }

        int countGaps() {
            return countStrengths(0, 0);
        }

        private int countStrengths(int least, int most) {
            int count = 0;
            for (int a = 0; a < FARMS; a++) {
                for (int b = a + 1; b < FARMS; b++) {
                    int strength = strengths[FARMS * a + b];
                    if (strength >= least && strength <= most) {
                        count++;
                    }
                }
            }
            return count;
        }

        int awayBits() {
            int bits = 0;
            for (int man = 0; man < FARMS; man++) {
                if (places[man] != man) {
                    bits |= 1 << man;
                }
            }
            return bits;
        }

        /** Answers the farms, as bits, from which a man has something to mend. */
        int toBeMended(int man) {
            int bits = 0;
            for (int farm = 0; farm < FARMS; farm++) {
                int strength = strengthBetween(man, farm);
                if (strength >= 0 && strength < MOST_STRENGTH) {
                    bits |= 1 << farm;
                }
            }
            return bits;
        }

        /** Answers why an act can not be, or 0. */
        int whyNot(int kind, int man, int number) {
            switch (kind) {
                case WALK: return whyNoWalk(man, number);
                case MEND: return whyNoMending(man);
                case BREAK: return whyNoBreaking(man, number);
                case WIND: return countPales() == 0 ? NO_PALE_ANYWHERE : 0;
                default: return day >= LAST_DAY ? DAYS_ARE_OVER : 0;
            }
        }

        private int whyNoWalk(int man, int farm) {
            if (placeOf(man) == farm) {
                return THERE_ALREADY;
            }
            return milesBetween(placeOf(man), farm) == 0 ? NO_ROAD : 0;
        }

        private int whyNoMending(int man) {
            if (placeOf(man) == man) {
                return HOME_WRONGLY;
            }
            return whyNotFrom(strengthBetween(man, placeOf(man)), MOST_STRENGTH);
        }

        private int whyNoBreaking(int man, int farm) {
            if (placeOf(man) != man) {
                return HOME_WRONGLY;
            }
            return whyNotFrom(strengthBetween(man, farm), 0);
        }

        private static int whyNotFrom(int strength, int end) {
            if (strength < 0) {
                return NO_PALE;
            }
            return strength == end ? STRENGTH_AT_END : 0;
        }

        /** Does an act that can be. */
        void perform(int kind, int man, int number) {
            switch (kind) {
                case WALK:
                    settle(man, cowsOf(man), number);
                    break;
                case MEND:
                    mendPale(man, placeOf(man));
                    break;
                case BREAK:
                    setStrength(man, number, strengthBetween(man, number) / 2);
                    break;
                case WIND:
                    blow(number);
                    break;
                default:
                    passDay();
                    break;
            }
        }

        private void mendPale(int man, int there) {
            setStrength(man, there, Math.min(MOST_STRENGTH, strengthBetween(man, there) + MENDED_BY));
        }

        private void blow(int wind) {
            for (int i = 0; i < PAIRS; i++) {
                if (strengths[i] >= 0) {
                    strengths[i] = Math.max(0, strengths[i] - wind);
                }
            }
        }

        private void passDay() {
            for (int a = 0; a < FARMS; a++) {
                for (int b = a + 1; b < FARMS; b++) {
                    if (strengths[FARMS * a + b] == 0) {
                        int fromAToB = Integer.compare(herds[a], herds[b]);
                        herds[a] -= fromAToB;
                        herds[b] += fromAToB;
                    }
                }
            }
            day++;
        }

        /** Answers the least pale (10 a + b) that an act, which can be, is about to make a gap, or NONE. */
        int gapMadeBy(int kind, int man, int number) {
            if (kind == BREAK && strengthBetween(man, number) == 1) {
                return 10 * Math.min(man, number) + Math.max(man, number);
            }
            return kind == WIND ? gapMadeByWind(number) : NONE;
        }

        private int gapMadeByWind(int wind) {
            for (int a = 0; a < FARMS; a++) {
                for (int b = a + 1; b < FARMS; b++) {
                    int strength = strengths[FARMS * a + b];
                    if (strength > 0 && strength <= wind) {
                        return 10 * a + b;
                    }
                }
            }
            return NONE;
        }

        /** Does the acts of a year, those that can be. */
        void drawActs(int seed, int acts) {
            int x = seed;
            for (int i = 0; i < acts; i++) {
                x = (75 * x + 74) % 65537;
                int kind = drawnKind(x / 7 % 8);
                int z = x / 56;
                int number = kind == WIND ? 1 + z % 3 : z % FARMS;
                if (whyNot(kind, x % FARMS, number) == 0) {
                    perform(kind, x % FARMS, number);
                }
            }
        }

        private static int drawnKind(int lot) {
            if (lot <= 2) {
                return WALK;
            }
            switch (lot) {
                case 3: return MEND;
                case 4: return BREAK;
                case 5: return WIND;
                default: return DAY;
            }
        }
    }

    /** The signs that were said, and how they are read as acts. */
    private static final class Pad {
        // What a reader of the signs looks for next.
        private static final int ACT_NEXT = 0;
        private static final int DEED_NEXT = 1;
        private static final int FARM_NEXT = 2;
        private static final int DIGIT_NEXT = 3;
        private static final int NOT_READABLE = 4;

        private final int[] signs = new int[MOST_SIGNS];
        private int count = 0;

        Pad() {
        }

        int size() {
            return count;
        }

        void clear() {
            count = 0;
        }

        /** Adds a sign; tells whether there was room for it. */
        boolean add(int sign) {
            if (count >= MOST_SIGNS) {
                return false;
            }
            signs[count] = sign;
            count++;
            return true;
        }

        int faultPlace() {
            int next = ACT_NEXT;
            for (int i = 0; i < count; i++) {
                next = nextAfter(next, signs[i]);
                if (next == NOT_READABLE) {
                    return i;
                }
            }
            return next == ACT_NEXT ? NONE : count;
        }

        private static int nextAfter(int looked, int sign) {
            switch (looked) {
                case ACT_NEXT:
                    return nextAfterStart(sign);
                case DEED_NEXT:
                    if (sign == '!') {
                        return FARM_NEXT;
                    }
                    return sign == '*' || isFarm(sign - 'a') ? ACT_NEXT : NOT_READABLE;
                case FARM_NEXT:
                    return isFarm(sign - 'a') ? ACT_NEXT : NOT_READABLE;
                default:
                    return sign >= '1' && sign <= '9' ? ACT_NEXT : NOT_READABLE;
            }
        }

        private static int nextAfterStart(int sign) {
            if (sign == '.') {
                return ACT_NEXT;
            }
            if (sign == 'w') {
                return DIGIT_NEXT;
            }
            return isFarm(sign - 'A') ? DEED_NEXT : NOT_READABLE;
        }

        private int signAt(int place) {
            return place >= 0 && place < count ? signs[place] : 0;
        }

        /** Answers the kind of the act that begins at a place of a pad without fault. */
        int kindAt(int place) {
            switch (signAt(place)) {
                case '.': return DAY;
                case 'w': return WIND;
                default: return deedKind(signAt(place + 1));
            }
        }

        private static int deedKind(int sign) {
            switch (sign) {
                case '*': return MEND;
                case '!': return BREAK;
                default: return WALK;
            }
        }

        int manAt(int place) {
            return signAt(place) - 'A';
        }

        /** Answers the farm or the wind of the act of a kind that begins at a place. */
        int numberAt(int place, int kind) {
            switch (kind) {
                case WALK: return signAt(place + 1) - 'a';
                case BREAK: return signAt(place + 2) - 'a';
                case WIND: return signAt(place + 1) - '0';
                default: return 0;
            }
        }

        static int lengthOf(int kind) {
            switch (kind) {
                case DAY: return 1;
                case BREAK: return 3;
                default: return 2;
            }
        }
    }

    /** What a run of weeks came to. */
    private static final class Weeks {
        private int acts = 0;
        private int failed = NONE;
        private int reason = NONE;
        private int gone = 0;
        private int gapAct = NONE;
        private int gap = NONE;

        Weeks() {
        }

        /** Tells whether all acts of a pad can be, from a moor on; the trial moor is as it is behind them, if so. */
        boolean canBe(Pad pad, Moor from, Moor trial) {
            if (pad.faultPlace() != NONE) {
                return false;
            }
            begin();
            trial.copyFrom(from);
            int place = 0;
            for (int turn = 0; turn < MOST_SIGNS && place < pad.size() && failed == NONE; turn++) {
                int kind = pad.kindAt(place);
                runAct(trial, kind, pad.manAt(place), pad.numberAt(place, kind));
                place += Pad.lengthOf(kind);
            }
            return failed == NONE;
        }

        private void begin() {
            acts = 0;
            failed = NONE;
            reason = NONE;
            gone = 0;
            gapAct = NONE;
            gap = NONE;
        }

        private void runAct(Moor trial, int kind, int man, int number) {
            int why = trial.whyNot(kind, man, number);
            if (why != 0) {
                failed = acts;
                reason = why;
                return;
            }
            if (kind == WALK) {
                gone += trial.milesBetween(trial.placeOf(man), number);
            }
            noteGap(trial.gapMadeBy(kind, man, number));
            trial.perform(kind, man, number);
            acts++;
        }

        private void noteGap(int made) {
            if (made != NONE && gap == NONE) {
                gap = made;
                gapAct = acts;
            }
        }
    }

    /** The least miles by roads. */
    private static final class Rounds {
        // Above the longest tour there can be: seven ways of at most 6 times 9 miles.
        private static final int FAR = 1000;

        private final int[] least = new int[PAIRS];
        // By the farms a man has been at (bits) and the one where he is.
        private final int[] tours = new int[FARM_SETS * FARMS];

        Rounds() {
        }

        void measure(Moor moor) {
            for (int a = 0; a < FARMS; a++) {
                for (int b = 0; b < FARMS; b++) {
                    int miles = moor.milesBetween(a, b);
                    least[FARMS * a + b] = miles > 0 ? miles : FAR;
                }
                least[FARMS * a + a] = 0;
            }
            for (int by = 0; by < FARMS; by++) {
                shortenBy(by);
            }
        }

        private void shortenBy(int by) {
            for (int a = 0; a < FARMS; a++) {
                for (int b = 0; b < FARMS; b++) {
                    int way = least[FARMS * a + by] + least[FARMS * by + b];
                    if (way < least[FARMS * a + b]) {
                        least[FARMS * a + b] = way;
                    }
                }
            }
        }

        int between(int a, int b) {
            return isFarm(a) && isFarm(b) ? milesOrNone(least[FARMS * a + b]) : NONE;
        }

        private static int milesOrNone(int miles) {
            return miles < FAR ? miles : NONE;
        }

        /** Answers the least miles from home by all wanted farms (bits without home) and home, or NONE. */
        int tour(int home, int wanted) {
            if (!isFarm(home)) {
                return NONE;
            }
            Arrays.fill(tours, FAR);
            tours[FARMS * (1 << home) + home] = 0;
            for (int been = 0; been < FARM_SETS; been++) {
                for (int here = 0; here < FARMS; here++) {
                    if (tours[FARMS * been + here] < FAR) {
                        lengthen(been, here, wanted & ~been);
                    }
                }
            }
            return milesOrNone(leastHome(home, (wanted | (1 << home)) & (FARM_SETS - 1)));
        }

        private void lengthen(int been, int here, int left) {
            for (int farm = 0; farm < FARMS; farm++) {
                if (((left >> farm) & 1) == 1) {
                    int longer = tours[FARMS * been + here] + least[FARMS * here + farm];
                    int there = FARMS * (been | (1 << farm)) + farm;
                    if (longer < tours[there]) {
                        tours[there] = longer;
                    }
                }
            }
        }

        private int leastHome(int home, int been) {
            int shortest = FAR;
            for (int last = 0; last < FARMS; last++) {
                shortest = Math.min(shortest, tours[FARMS * been + last] + least[FARMS * last + home]);
            }
            return shortest;
        }
    }

    /** Whom the four and the four like; four couples are the bits that tell, two each, whom those of side 0 have. */
    private static final class Likings {
        private static final int COUPLINGS = 256;
        // 0 has 0, 1 has 1, 2 has 2, 3 has 3.
        private static final int EACH_ITS_OWN_NUMBER = 228;
        private static final int ALL_FOUR = 15;
        private static final int RANKS = 2 * ONES * ONES;

        private final int[] rows = new int[2 * ONES];
        // Where in a one's row each of the other side stands: 16 side + 4 one + other.
        private final int[] ranks = new int[RANKS];

        Likings() {
            for (int i = 0; i < 2 * ONES; i++) {
                rows[i] = FIRST_ROW;
            }
            for (int i = 0; i < RANKS; i++) {
                ranks[i] = i % ONES;
            }
        }

        void copyFrom(Likings other) {
            System.arraycopy(other.rows, 0, rows, 0, 2 * ONES);
            System.arraycopy(other.ranks, 0, ranks, 0, RANKS);
        }

        static boolean isRow(int row) {
            if (row < FIRST_ROW || row > LAST_ROW) {
                return false;
            }
            int met = 0;
            int rest = row;
            for (int i = 0; i < ONES; i++) {
                met |= 1 << (rest % 10);
                rest /= 10;
            }
            return met == ALL_FOUR;
        }

        int rowOf(int side, int one) {
            return isOne(side, one) ? rows[ONES * side + one] : FIRST_ROW;
        }

        void setRow(int side, int one, int row) {
            if (!isOne(side, one) || !isRow(row)) {
                return;
            }
            rows[ONES * side + one] = row;
            int rest = row;
            for (int place = ONES - 1; place >= 0; place--) {
                setRank(side, one, rest % 10, place);
                rest /= 10;
            }
        }

        private void setRank(int side, int one, int other, int rank) {
            if (isOne(side, one) && isOne(side, other)) {
                ranks[ONES * ONES * side + ONES * one + other] = rank;
            }
        }

        private int rankOf(int side, int one, int other) {
            return isOne(side, one) && isOne(side, other) ? ranks[ONES * ONES * side + ONES * one + other] : ONES;
        }

        static int partnerIn(int coupling, int side, int one) {
            if (side == 0) {
                return chosenBy(coupling, one);
            }
            for (int chooser = 0; chooser < ONES; chooser++) {
                if (chosenBy(coupling, chooser) == one) {
                    return chooser;
                }
            }
            return NONE;
        }

        private static int chosenBy(int coupling, int oneOfSide0) {
            return (coupling >> (2 * oneOfSide0)) & 3;
        }

        int countSteady() {
            int count = 0;
            for (int coupling = 0; coupling < COUPLINGS; coupling++) {
                if (isSteady(coupling)) {
                    count++;
                }
            }
            return count;
        }

        /** Answers the steady coupling best for a side: it alone has the least sum of ranks there. */
        int bestSteady(int side) {
            int best = EACH_ITS_OWN_NUMBER;
            int leastSum = ONES * ONES;
            for (int coupling = 0; coupling < COUPLINGS; coupling++) {
                if (isSteady(coupling) && sumOfRanks(coupling, side) < leastSum) {
                    best = coupling;
                    leastSum = sumOfRanks(coupling, side);
                }
            }
            return best;
        }

        private int sumOfRanks(int coupling, int side) {
            int sum = 0;
            for (int one = 0; one < ONES; one++) {
                sum += rankOf(side, one, partnerIn(coupling, side, one));
            }
            return sum;
        }

        private boolean isSteady(int coupling) {
            if (!hasEachOnce(coupling)) {
                return false;
            }
            for (int one = 0; one < ONES; one++) {
                for (int other = 0; other < ONES; other++) {
                    if (prefers(coupling, 0, one, other) && prefers(coupling, 1, other, one)) {
                        return false;
                    }
                }
            }
            return true;
        }

        private static boolean hasEachOnce(int coupling) {
            int met = 0;
            for (int one = 0; one < ONES; one++) {
                met |= 1 << chosenBy(coupling, one);
            }
            return met == ALL_FOUR;
        }

        private boolean prefers(int coupling, int side, int one, int other) {
            return rankOf(side, one, other) < rankOf(side, one, partnerIn(coupling, side, one));
        }
    }

    /** What was seen of the posts: not the sights themselves, but the cases (10 p + w) that fit them all. */
    private static final class Sights {
        private final int[] cases = new int[POST_CASES];
        // How many cases more are down at a post than at the one ahead of it.
        private final int[] steps = new int[SIGHT_POSTS + 1];
        private int fitting = 0;
        private int count = 0;

        Sights() {
            clear();
        }

        void copyFrom(Sights other) {
            System.arraycopy(other.cases, 0, cases, 0, POST_CASES);
            fitting = other.fitting;
            count = other.count;
        }

        void clear() {
            for (int i = 0; i < POST_CASES; i++) {
                cases[i] = i;
            }
            fitting = POST_CASES;
            count = 0;
        }

        /** Adds a sight; tells whether there was room for it. */
        boolean add(int days, int post, boolean down) {
            if (count >= MOST_SIGHTS) {
                return false;
            }
            count++;
            int left = 0;
            for (int i = 0; i < fitting; i++) {
                if (isDown(cases[i], days, post) == down) {
                    cases[left] = cases[i];
                    left++;
                }
            }
            fitting = left;
            return true;
        }

        private static boolean isDown(int postCase, int days, int post) {
            return post >= postCase / GROWTHS && post <= lastDown(postCase, days);
        }

        private static int lastDown(int postCase, int days) {
            return postCase / GROWTHS + days * (postCase % GROWTHS);
        }

        int caseAt(int i) {
            return i >= 0 && i < fitting ? cases[i] : NONE;
        }

        /** Answers the least question (100 days + post) that leaves fewest cases at the most, or NONE. */
        int bestQuestion() {
            int best = NONE;
            int fewest = POST_CASES + 1;
            for (int days = 0; days <= LAST_SIGHT_DAY && fitting > 0; days++) {
                tally(days);
                int down = 0;
                for (int post = 0; post < SIGHT_POSTS; post++) {
                    down += steps[post];
                    int left = Math.max(down, fitting - down);
                    if (left < fewest) {
                        fewest = left;
                        best = 100 * days + post;
                    }
                }
            }
            return best;
        }

        private void tally(int days) {
            Arrays.fill(steps, 0);
            for (int i = 0; i < fitting; i++) {
                int first = cases[i] / GROWTHS;
                int behindLast = lastDown(cases[i], days) + 1;
                if (first >= 0 && first <= SIGHT_POSTS && behindLast >= 0 && behindLast <= SIGHT_POSTS) {
                    steps[first]++;
                    steps[behindLast]--;
                }
            }
        }

        /** Answers how many cases a question leaves at the most. */
        int leftAtMost(int question) {
            int down = 0;
            for (int i = 0; i < fitting; i++) {
                if (isDown(cases[i], question / 100, question % 100)) {
                    down++;
                }
            }
            return Math.max(down, fitting - down);
        }
    }

    /** Heaps of rails, parted by turns into two that are not alike. */
    private static final class Rails {
        // The worths that one set of bits has room for.
        private static final int MOST_WORTHS = 32;

        // Which single heap of the game of Nim a heap of so many rails is worth.
        private final int[] worths = new int[MOST_RAILS + 1];

        Rails() {
            for (int n = 0; n <= MOST_RAILS; n++) {
                int reached = 0;
                for (int less = 1; 2 * less < n; less++) {
                    reached |= 1 << (worths[less] ^ worths[n - less]);
                }
                worths[n] = leastMissing(reached);
            }
        }

        private static int leastMissing(int bits) {
            int least = 0;
            while (least < MOST_WORTHS && ((bits >> least) & 1) == 1) {
                least++;
            }
            return least;
        }

        /** Answers the least lesser heap of a parting of n that leaves the other nothing to win, or NONE. */
        int winningLess(int n) {
            if (n > MOST_RAILS) {
                return NONE;
            }
            for (int less = 1; 2 * less < n; less++) {
                if (worths[less] == worths[n - less]) {
                    return less;
                }
            }
            return NONE;
        }
    }

    /** Chances of winds, as whole numbers over m to the power of n. */
    private static final class Gusts {
        // Above what Euclid's way needs for any two longs.
        private static final int MOST_STEPS = 100;

        private Gusts() {
        }

        static long power(int base, int exponent) {
            long product = 1;
            for (int i = 0; i < exponent; i++) {
                product *= base;
            }
            return product;
        }

        /** Answers in how many ways the strongest of n winds is just k. */
        static long waysOfJust(int n, int k) {
            return power(k, n) - power(k - 1, n);
        }

        /** Answers the strongest of n winds, summed over all ways. */
        static long sumOfStrongest(int n, int m) {
            long sum = 0;
            for (int k = 1; k <= m; k++) {
                sum += k * waysOfJust(n, k);
            }
            return sum;
        }

        static long partInLowestTerms(long upper, long lower, int part) {
            long common = greatestCommon(upper, lower);
            long number = part == 0 ? upper : lower;
            return common > 1 ? number / common : number;
        }

        private static long greatestCommon(long a, long b) {
            long greater = a;
            long lesser = b;
            for (int i = 0; i < MOST_STEPS && lesser != 0; i++) {
                long rest = greater % lesser;
                greater = lesser;
                lesser = rest;
            }
            return greater;
        }
    }
}
