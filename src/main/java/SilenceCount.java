import java.util.Arrays;

/** Monks who count down in silence: the promises of DOC.md. */
public final class SilenceCount {
    public static final int NONE = -6, UNKNOWN = -1, OUTSIDE = -2, STATE = -3, FULL = -4, NO = -5;
    public static final long LOST = -1000000000000000000L;

    private static final int MONKS = 8;
    private static final int HIGHEST = 1000000;
    private static final int SHARPEST = 99;
    private static final int FASTEST = 9;
    private static final int LAWS = 5;
    private static final int LARGEST_BOW = 100000;
    private static final int LONGEST_SIGHT = 99;
    private static final int MOST_SKIPPED = 9;

    private static final int NOBODY = -1;
    private static final char BREATH = '.', TEN_BREATHS = ':', BELL = '!', BEE = '*';
    private static final char WAKE = 'w', COUGH = 'k', ELBOW = 'e', FIRST_LETTER = 'A';

    private final House house;
    private final Pad pad;
    private final Hours hours;
    private final Laws laws;
    private final Sights sights;
    private final Worlds worlds;
    private final Year trialYear;
    private final Image[] images;

    public SilenceCount() {
        house = new House();
        pad = new Pad();
        hours = new Hours();
        laws = new Laws();
        sights = new Sights();
        worlds = new Worlds();
        trialYear = new Year();
        images = new Image[] {new Image(), new Image()};
    }

    // ---- 1 monks, hours

    public int monk(int monk, int count, int pace) {
        if (!isMonk(monk)) {
            return UNKNOWN;
        }
        // HOUSE is never above HIGHEST, so its own limit is enough.
        if (!isWithin(count, 0, house.start) || !isWithin(pace, 1, FASTEST)) {
            return OUTSIDE;
        }
        house.settle(monk, count, pace);
        return Integer.bitCount(house.there);
    }

    public int leave(int monk) {
        if (!house.isThere(monk)) {
            return UNKNOWN;
        }
        house.dismiss(monk);
        return Integer.bitCount(house.there);
    }

    public int set(int which, int v) {
        if (which == 0) {
            return changeStart(v);
        }
        return which == 1 ? changeSharp(v) : OUTSIDE;
    }

    private int changeStart(int v) {
        if (!isWithin(v, 1, HIGHEST)) {
            return OUTSIDE;
        }
        if (house.greatestCount(house.there) > v) {
            return STATE;
        }
        int was = house.start;
        house.start = v;
        return was;
    }

    private int changeSharp(int v) {
        if (!isWithin(v, 0, SHARPEST)) {
            return OUTSIDE;
        }
        int was = house.sharp;
        house.sharp = v;
        return was;
    }

    public int say(int sign) {
        if (!isWithin(sign, 33, 126)) {
            return OUTSIDE;
        }
        return pad.add(sign) ? pad.size : FULL;
    }

    public int wipe() {
        int were = pad.size;
        pad.size = 0;
        return were;
    }

    public int fault() {
        return pad.readActs();
    }

    // ---- 2 hours

    public int judge(int what) {
        if (!isWithin(what, 0, 1)) {
            return OUTSIDE;
        }
        hours.follow(pad, house);
        if (hours.hasFault) {
            return NO;
        }
        return what == 0 ? hours.wrongAct : hours.why;
    }

    public int done() {
        if (!hours.follow(pad, house)) {
            return NO;
        }
        house.copyFrom(hours.house);
        pad.size = 0;
        return pad.acts;
    }

    public int state(int monk, int what) {
        if (!house.isThere(monk)) {
            return UNKNOWN;
        }
        return isWithin(what, 0, 1) ? house.tell(monk, what) : OUTSIDE;
    }

    public int behind(int monk, int what) {
        if (!house.isThere(monk)) {
            return UNKNOWN;
        }
        if (!isWithin(what, 0, 1)) {
            return OUTSIDE;
        }
        return hours.follow(pad, house) ? hours.house.tell(monk, what) : NO;
    }

    public int breaths(int what) {
        if (!isWithin(what, 0, 1)) {
            return OUTSIDE;
        }
        if (!hours.follow(pad, house)) {
            return NO;
        }
        return what == 0 ? hours.breathsSoFar : hours.breathOfFirstNought;
    }

    public int noticed() {
        return hours.follow(pad, house) ? hours.firstNoticed : NO;
    }

    public int ahead() {
        int monk = house.foremost();
        return monk == NOBODY ? NONE : monk;
    }

    public int differ() {
        return house.spread();
    }

    public int alike(int i) {
        int found = 0;
        for (int lesser = 0; lesser < MONKS; lesser++) {
            for (int greater = lesser + 1; greater < MONKS; greater++) {
                if (!house.areAwakeAtOneNumber(lesser, greater)) {
                    continue;
                }
                if (found == i) {
                    return 10 * lesser + greater;
                }
                found++;
            }
        }
        return i == -1 ? found : NONE;
    }

    // ---- 3 ends, bows, relays

    public int ends(int monk) {
        if (monk == -1) {
            return house.breathsToEnd(house.awake);
        }
        if (!house.isThere(monk)) {
            return UNKNOWN;
        }
        return house.breathsToEnd(house.awake & 1 << monk);
    }

    public int meet(int monk, int other) {
        if (monk == other || !house.isAwake(monk) || !house.isAwake(other)) {
            return UNKNOWN;
        }
        return house.breathsToMeet(monk, other);
    }

    public int bows(int law, int from, int to) {
        if (!isLaw(law) || !isWithin(from, 1, LARGEST_BOW) || !isWithin(to, 1, LARGEST_BOW)) {
            return OUTSIDE;
        }
        return to < from ? 0 : laws.countBetween(law, from, to);
    }

    public int next(int law, int v) {
        if (!isLaw(law) || !isWithin(v, 0, HIGHEST)) {
            return OUTSIDE;
        }
        return Laws.nearestAtOrBelow(law, v);
    }

    public int elbows(int what) {
        if (!isWithin(what, 0, 1)) {
            return OUTSIDE;
        }
        if (house.awake == 0) {
            return NONE;
        }
        // Whoever is elbowed joins the commonest number, which thereby stays the commonest:
        // one elbow for each who is not at it yet, and no other number can be reached.
        int number = house.commonestCount();
        return what == 0 ? Integer.bitCount(house.awake) - house.howManyAwakeAt(number) : number;
    }

    public int relays(int k, int h, int r, int what) {
        if (!isWithin(k, 1, MONKS) || !isWithin(h, 1, 24) || !isWithin(r, 1, 24) || !isWithin(what, 0, 1)) {
            return OUTSIDE;
        }
        if (what == 0) {
            return canRelay(Integer.bitCount(house.there), k, h, r) ? 1 : 0;
        }
        for (int monks = 1; monks <= MONKS; monks++) {
            if (canRelay(monks, k, h, r)) {
                return monks;
            }
        }
        return NONE;
    }

    /**
     * Both conditions are plainly needed. They are enough, too: let the watch go round the monks, k at a
     * time; then two hours in a row share nobody, and nobody has more than his even share, rounded up.
     */
    private static boolean canRelay(int monks, int k, int h, int r) {
        int forTwoHoursInARow = h > 1 ? 2 * k : k;
        return monks >= forTwoHoursInARow && monks * r >= k * h;
    }

    public int beads(int n, int what) {
        if (!isWithin(n, 0, 200) || !isWithin(what, 0, 1)) {
            return OUTSIDE;
        }
        int fewest = NONE;
        int ways = 0;
        for (int twelves = 0; 12 * twelves <= n; twelves++) {
            for (int sevens = 0; 12 * twelves + 7 * sevens <= n; sevens++) {
                int rest = n - 12 * twelves - 7 * sevens;
                if (rest % 5 != 0) {
                    continue;
                }
                int strings = twelves + sevens + rest / 5;
                fewest = fewest == NONE ? strings : Math.min(fewest, strings);
                ways++;
            }
        }
        return what == 0 ? fewest : ways;
    }

    // ---- 4 skips, bees

    public int seen(int monk, int breaths, boolean bowed) {
        if (!house.isThere(monk)) {
            return UNKNOWN;
        }
        if (!isWithin(breaths, 0, LONGEST_SIGHT)) {
            return OUTSIDE;
        }
        return sights.add(monk, breaths, bowed) ? sights.size : FULL;
    }

    public int forget() {
        int were = sights.size;
        sights.size = 0;
        return were;
    }

    public int skips(int law, int what) {
        if (!isLaw(law) || !isWithin(what, 0, 2)) {
            return OUTSIDE;
        }
        worlds.find(law, house, sights);
        if (what == 0) {
            return worlds.size;
        }
        if (what == 1) {
            return worlds.skippers;
        }
        return worlds.hasNobody ? 1 : 0;
    }

    public int ask(int law, int b, int what) {
        if (!isLaw(law) || !isWithin(b, 0, LONGEST_SIGHT) || !isWithin(what, 0, 1)) {
            return OUTSIDE;
        }
        worlds.find(law, house, sights);
        if (worlds.size == 0) {
            return NONE;
        }
        int best = NONE;
        int fewestLeft = NONE;
        for (int monk = 0; monk < MONKS; monk++) {
            if (!house.isAwake(monk)) {
                continue;
            }
            int left = worlds.leftAtTheMost(law, house, monk, b);
            if (best == NONE || left < fewestLeft) {
                best = monk;
                fewestLeft = left;
            }
        }
        return what == 0 ? best : fewestLeft;
    }

    public long bees(int m, int t, int what, int part) {
        if (!isWithin(m, 0, 10) || !isWithin(t, 0, 10) || !isWithin(what, 0, 1) || !isWithin(part, 0, 1)) {
            return LOST + OUTSIDE;
        }
        int monk = house.foremost();
        if (monk == NOBODY) {
            return LOST + STATE;
        }
        long lower = Fractions.powerOfTen(m);
        long upper = Fractions.beesInTenths(house, monk, m, t, what == 1);
        return Fractions.partInLowestTerms(upper, lower, part);
    }

    public int year(int seed, int m, int what) {
        if (!isWithin(seed, 0, 9999) || !isWithin(m, 1, 99) || !isWithin(what, 0, 2)) {
            return OUTSIDE;
        }
        trialYear.pass(house, seed, m);
        if (what == 0) {
            return trialYear.house.sumOfCounts();
        }
        return what == 1 ? Integer.bitCount(trialYear.house.awake) : trialYear.actsToNought;
    }

    public int image(int n) {
        if (!isWithin(n, 0, images.length - 1)) {
            return OUTSIDE;
        }
        images[n].keep(house, sights);
        return 1;
    }

    public int restore(int n) {
        if (!isWithin(n, 0, images.length - 1)) {
            return OUTSIDE;
        }
        if (!images[n].isKept) {
            return STATE;
        }
        images[n].giveBack(house, sights);
        return 1;
    }

    public int told(int what) {
        switch (what) {
            case 0:
                return pad.size;
            case 1:
                return house.there;
            case 2:
                return house.awake;
            case 3:
                return house.start;
            case 4:
                return house.sharp;
            case 5:
                return sights.size;
            default:
                return house.isThere(what - 10) ? house.paces[what - 10] : OUTSIDE;
        }
    }

    private static boolean isWithin(int number, int least, int greatest) {
        return number >= least && number <= greatest;
    }

    private static boolean isMonk(int monk) {
        return monk >= 0 && monk < MONKS;
    }

    private static boolean isLaw(int law) {
        return isWithin(law, 0, LAWS - 1);
    }

    /** Who is there, at what number, and the house's own two numbers; sets of monks are bits. */
    private static final class House {
        int there;
        int awake;
        int start = HIGHEST;
        int sharp = 9;
        final int[] counts = new int[MONKS];
        final int[] paces = new int[MONKS];

        void copyFrom(House other) {
            there = other.there;
            awake = other.awake;
            start = other.start;
            sharp = other.sharp;
            System.arraycopy(other.counts, 0, counts, 0, MONKS);
            System.arraycopy(other.paces, 0, paces, 0, MONKS);
        }

        boolean isThere(int monk) {
            return monk >= 0 && monk < MONKS && (there & 1 << monk) != 0;
        }

        boolean isAwake(int monk) {
            return monk >= 0 && monk < MONKS && (awake & 1 << monk) != 0;
        }

        void settle(int monk, int count, int pace) {
            there |= 1 << monk;
            awake |= 1 << monk;
            counts[monk] = count;
            paces[monk] = pace;
        }

        void dismiss(int monk) {
            there &= ~(1 << monk);
            awake &= ~(1 << monk);
        }

        int tell(int monk, int what) {
            if (what == 0) {
                return counts[monk];
            }
            return isAwake(monk) ? 1 : 0;
        }

        /** The reason why an act can not be; 0 if it can. */
        int whyNot(int monk, int sign) {
            if (monk == NOBODY) {
                return awake == 0 ? 5 : 0;
            }
            if (!isThere(monk)) {
                return 1;
            }
            if (Pad.isLetter(sign)) {
                return whyNoHandOver(monk, sign - FIRST_LETTER);
            }
            if (sign == WAKE) {
                return isAwake(monk) ? 4 : 0;
            }
            return isAwake(monk) ? 0 : 3;
        }

        private int whyNoHandOver(int monk, int other) {
            if (!isThere(other)) {
                return 1;
            }
            if (monk == other) {
                return 2;
            }
            return isAwake(monk) && isAwake(other) ? 0 : 3;
        }

        /** Only of acts that can be: whyNot has looked at the monks. */
        void act(int monk, int sign) {
            switch (sign) {
                case BREATH:
                    breathe(1);
                    break;
                case TEN_BREATHS:
                    breathe(10);
                    break;
                case BELL:
                    ring();
                    break;
                case BEE:
                    sting();
                    break;
                case WAKE:
                    awake |= 1 << monk;
                    break;
                case COUGH:
                    counts[monk] = Math.min(start, counts[monk] + 3);
                    break;
                case ELBOW:
                    counts[monk] = commonestCount();
                    break;
                default:
                    handOver(monk, sign - FIRST_LETTER);
            }
        }

        void breathe(int breaths) {
            for (int monk = 0; monk < MONKS; monk++) {
                if (isAwake(monk)) {
                    counts[monk] = countBehind(monk, 0, breaths);
                }
            }
        }

        private void ring() {
            for (int monk = 0; monk < MONKS; monk++) {
                if (isAwake(monk)) {
                    counts[monk] = Math.min(start, counts[monk] + 1);
                }
            }
        }

        private void sting() {
            int monk = foremost();
            if (monk != NOBODY) {
                counts[monk] = start;
            }
        }

        private void handOver(int monk, int other) {
            awake &= ~(1 << monk);
            counts[other] = (counts[monk] + counts[other]) / 2;
        }

        int countBehind(int monk, int skipped, int breaths) {
            return Math.max(0, counts[monk] - skipped - breaths * paces[monk]);
        }

        int foremost() {
            int best = NOBODY;
            for (int monk = 0; monk < MONKS; monk++) {
                if (isAwake(monk) && (best == NOBODY || counts[monk] < counts[best])) {
                    best = monk;
                }
            }
            return best;
        }

        int greatestCount(int among) {
            int greatest = 0;
            for (int monk = 0; monk < MONKS; monk++) {
                if ((among & 1 << monk) != 0) {
                    greatest = Math.max(greatest, counts[monk]);
                }
            }
            return greatest;
        }

        int spread() {
            int least = foremost();
            return least == NOBODY ? 0 : greatestCount(awake) - counts[least];
        }

        boolean areAwakeAtOneNumber(int one, int other) {
            return isAwake(one) && isAwake(other) && counts[one] == counts[other];
        }

        int howManyAwakeAt(int number) {
            int many = 0;
            for (int monk = 0; monk < MONKS; monk++) {
                if (isAwake(monk) && counts[monk] == number) {
                    many++;
                }
            }
            return many;
        }

        int commonestCount() {
            int commonest = 0;
            int most = 0;
            for (int monk = 0; monk < MONKS; monk++) {
                if (!isAwake(monk)) {
                    continue;
                }
                int many = howManyAwakeAt(counts[monk]);
                if (many > most || many == most && counts[monk] < commonest) {
                    commonest = counts[monk];
                    most = many;
                }
            }
            return commonest;
        }

        /** Those who are at 0, asleep or not. */
        int atNought() {
            int found = 0;
            for (int monk = 0; monk < MONKS; monk++) {
                if (isThere(monk) && counts[monk] == 0) {
                    found |= 1 << monk;
                }
            }
            return found;
        }

        int sumOfCounts() {
            int sum = 0;
            for (int monk = 0; monk < MONKS; monk++) {
                if (isThere(monk)) {
                    sum += counts[monk];
                }
            }
            return sum;
        }

        int breathsToEnd(int among) {
            int breaths = NONE;
            for (int monk = 0; monk < MONKS; monk++) {
                if ((among & 1 << monk) != 0 && paces[monk] > 0) {
                    breaths = Math.max(breaths, (counts[monk] + paces[monk] - 1) / paces[monk]);
                }
            }
            return breaths;
        }

        int breathsToMeet(int one, int other) {
            int apart = counts[one] - counts[other];
            int closer = paces[one] - paces[other];
            if (apart == 0) {
                return counts[one] > 0 ? 0 : NONE;
            }
            if (closer == 0 || apart % closer != 0) {
                return NONE;
            }
            int breaths = apart / closer;
            return breaths > 0 && countBehind(one, 0, breaths) > 0 ? breaths : NONE;
        }
    }

    /** The signs that were said, and the acts that they tell. */
    private static final class Pad {
        private static final int LENGTH = 60;

        int size;
        private final int[] signs = new int[LENGTH];
        int acts;
        final int[] actMonks = new int[LENGTH];
        final int[] actSigns = new int[LENGTH];

        boolean add(int sign) {
            if (size >= LENGTH) {
                return false;
            }
            signs[size] = sign;
            size++;
            return true;
        }

        /** Reads the acts up to the first sign that can not stand where it is; answers its place, or NONE. */
        int readActs() {
            acts = 0;
            for (int place = 0; place < size; place++) {
                int sign = signs[place];
                if (isWhole(sign)) {
                    addAct(NOBODY, sign);
                    continue;
                }
                if (!isLetter(sign)) {
                    return place;
                }
                place++;
                if (place >= size || !isSecond(signs[place])) {
                    return place;
                }
                addAct(sign - FIRST_LETTER, signs[place]);
            }
            return NONE;
        }

        private void addAct(int monk, int sign) {
            actMonks[acts] = monk;
            actSigns[acts] = sign;
            acts++;
        }

        private static boolean isWhole(int sign) {
            return sign == BREATH || sign == TEN_BREATHS || sign == BELL || sign == BEE;
        }

        static boolean isLetter(int sign) {
            return isMonk(sign - FIRST_LETTER);
        }

        private static boolean isSecond(int sign) {
            return isLetter(sign) || sign == WAKE || sign == COUGH || sign == ELBOW;
        }
    }

    /** What becomes of the house by the hours on the pad, up to the first act that can not be. */
    private static final class Hours {
        final House house = new House();
        boolean hasFault;
        int wrongAct;
        int why;
        int breathsSoFar;
        int breathOfFirstNought;
        int firstNoticed;

        /** Answers whether they can be, every one. */
        boolean follow(Pad pad, House from) {
            hasFault = pad.readActs() != NONE;
            begin(from);
            for (int act = 0; act < pad.acts && !hasFault && wrongAct == NONE; act++) {
                pass(act, pad.actMonks[act], pad.actSigns[act]);
            }
            return !hasFault && wrongAct == NONE;
        }

        private void begin(House from) {
            house.copyFrom(from);
            wrongAct = NONE;
            why = NONE;
            breathsSoFar = 0;
            breathOfFirstNought = house.atNought() != 0 ? 0 : NONE;
            firstNoticed = NONE;
        }

        private void pass(int act, int monk, int sign) {
            int reason = house.whyNot(monk, sign);
            if (reason != 0) {
                wrongAct = act;
                why = reason;
                return;
            }
            if (sign == BREATH || sign == TEN_BREATHS) {
                passBreaths(sign == BREATH ? 1 : 10);
            } else {
                house.act(monk, sign);
            }
            if (firstNoticed == NONE && house.spread() > house.sharp) {
                firstNoticed = act;
            }
        }

        /** One by one, as somebody may be at 0 in the midst of ten. */
        private void passBreaths(int breaths) {
            for (int i = 0; i < breaths; i++) {
                house.breathe(1);
                breathsSoFar++;
                if (breathOfFirstNought == NONE && house.atNought() != 0) {
                    breathOfFirstNought = breathsSoFar;
                }
            }
        }
    }

    /** At which numbers they bow. */
    private static final class Laws {
        private static final int PRIMES = 0, SQUARES = 1, MIRRORED = 2, BY_DIGIT_SUM = 3;
        private static final int WORDS = LARGEST_BOW / 64 + 1;
        private static final long ODD_BITS = 0xAAAAAAAAAAAAAAAAL;

        // A bit for each number up to LARGEST_BOW; made when first asked for, as most houses never ask.
        private long[] primes;
        private long[] byDigitSum;

        static boolean bowAt(int law, int number) {
            if (number < 1) {
                return false;
            }
            switch (law) {
                case PRIMES:
                    return isPrime(number);
                case SQUARES:
                    return rootOf(number) * rootOf(number) == number;
                case MIRRORED:
                    return withMirrored(0, number) == number;
                case BY_DIGIT_SUM:
                    return isMultipleOf(number, digitSum(number));
                default:
                    return (number & number - 1) == 0;
            }
        }

        static int nearestAtOrBelow(int law, int v) {
            for (int number = startOfSearch(law, v); number >= 1; number--) {
                if (bowAt(law, number)) {
                    return number;
                }
            }
            return NONE;
        }

        /** Squares and powers lie far apart: there the search begins at its end. */
        private static int startOfSearch(int law, int v) {
            switch (law) {
                case PRIMES:
                case MIRRORED:
                case BY_DIGIT_SUM:
                    return v;
                case SQUARES:
                    return rootOf(v) * rootOf(v);
                default:
                    return greatestPowerUpTo(v);
            }
        }

        int countBetween(int law, int from, int to) {
            switch (law) {
                case PRIMES:
                    if (primes == null) {
                        primes = markPrimes();
                    }
                    return countMarks(primes, from, to);
                case SQUARES:
                    return rootOf(to) - rootOf(from - 1);
                case MIRRORED:
                    return countMirrored(from, to);
                case BY_DIGIT_SUM:
                    if (byDigitSum == null) {
                        byDigitSum = markByDigitSum();
                    }
                    return countMarks(byDigitSum, from, to);
                default:
                    return countPowers(from, to);
            }
        }

        private static long[] markPrimes() {
            long[] marks = new long[WORDS];
            Arrays.fill(marks, ODD_BITS);
            marks[0] = ODD_BITS & ~(1L << 1) | 1L << 2;
            for (int prime = 3; prime * prime <= LARGEST_BOW; prime += 2) {
                if ((marks[prime >> 6] >>> (prime & 63) & 1) == 0) {
                    continue;
                }
                for (int multiple = prime * prime; multiple <= LARGEST_BOW; multiple += 2 * prime) {
                    marks[multiple >> 6] &= ~(1L << (multiple & 63));
                }
            }
            return marks;
        }

        /** Ten by ten, as the digits' sum but for the last one is the same within each ten. */
        private static long[] markByDigitSum() {
            long[] marks = new long[WORDS];
            for (int ten = 0; ten <= LARGEST_BOW; ten += 10) {
                int sumOfTen = digitSum(ten);
                for (int number = ten; number < ten + 10 && number <= LARGEST_BOW; number++) {
                    if (isMultipleOf(number, sumOfTen + number - ten)) {
                        marks[number >> 6] |= 1L << (number & 63);
                    }
                }
            }
            return marks;
        }

        private static int countMarks(long[] marks, int from, int to) {
            int first = from >> 6;
            int last = to >> 6;
            int many = 0;
            for (int word = first; word <= last && word < marks.length; word++) {
                long bits = marks[word];
                if (word == first) {
                    bits &= -1L << (from & 63);
                }
                if (word == last) {
                    bits &= -1L >>> (63 - (to & 63));
                }
                many += Long.bitCount(bits);
            }
            return many;
        }

        /** By their upper halves, up to 999: the longest number in question has five digits. */
        private static int countMirrored(int from, int to) {
            int many = 0;
            for (int half = 1; half <= 999; half++) {
                if (isWithin(withMirrored(half, half), from, to)) {
                    many++;
                }
                if (isWithin(withMirrored(half, half / 10), from, to)) {
                    many++;
                }
            }
            return many;
        }

        private static int countPowers(int from, int to) {
            int many = 0;
            for (int power = 1; power <= LARGEST_BOW; power *= 2) {
                if (isWithin(power, from, to)) {
                    many++;
                }
            }
            return many;
        }

        private static int greatestPowerUpTo(int v) {
            int greatest = 0;
            for (int power = 1; power <= HIGHEST; power *= 2) {
                greatest = power <= v ? power : greatest;
            }
            return greatest;
        }

        private static boolean isPrime(int number) {
            if (number < 4) {
                return number > 1;
            }
            if (number % 2 == 0 || number % 3 == 0) {
                return false;
            }
            // What is left lies next to a multiple of six.
            for (int divisor = 5; divisor * divisor <= number; divisor += 6) {
                if (number % divisor == 0 || number % (divisor + 2) == 0) {
                    return false;
                }
            }
            return true;
        }

        /** The root, cut; of numbers up to HIGHEST, whose roots have ten bits at most. */
        private static int rootOf(int number) {
            int root = 0;
            for (int bit = 512; bit > 0; bit /= 2) {
                if ((root + bit) * (root + bit) <= number) {
                    root += bit;
                }
            }
            return root;
        }

        /** The digits of one number, then those of another from behind. */
        private static int withMirrored(int front, int back) {
            int whole = front;
            for (int rest = back; rest > 0; rest /= 10) {
                whole = 10 * whole + rest % 10;
            }
            return whole;
        }

        private static int digitSum(int number) {
            int sum = 0;
            for (int rest = number; rest > 0; rest /= 10) {
                sum += rest % 10;
            }
            return sum;
        }

        private static boolean isMultipleOf(int number, int divisor) {
            return divisor > 0 && number % divisor == 0;
        }
    }

    /** Who was seen to bow, or not to. */
    private static final class Sights {
        int size;
        final int[] monks = new int[8];
        final int[] breaths = new int[8];
        final boolean[] bowed = new boolean[8];

        boolean add(int monk, int behind, boolean didBow) {
            if (size >= monks.length) {
                return false;
            }
            monks[size] = monk;
            breaths[size] = behind;
            bowed[size] = didBow;
            size++;
            return true;
        }

        void copyFrom(Sights other) {
            size = other.size;
            for (int i = 0; i < size; i++) {
                monks[i] = other.monks[i];
                breaths[i] = other.breaths[i];
                bowed[i] = other.bowed[i];
            }
        }
    }

    /** The worlds, of nobody's or one monk's skip, by which all sights are so. */
    private static final class Worlds {
        int size;
        int skippers;
        boolean hasNobody;
        // For each monk the numbers that he may have skipped, as bits 1 to 9.
        private final int[] fitting = new int[MONKS];

        void find(int law, House house, Sights sights) {
            int wrong = monksSeenOtherwise(law, house, sights);
            hasNobody = wrong == 0;
            size = hasNobody ? 1 : 0;
            skippers = 0;
            for (int monk = 0; monk < MONKS; monk++) {
                // A monk's skip mends the sights of himself alone.
                boolean mayMend = house.isAwake(monk) && (wrong & ~(1 << monk)) == 0;
                fitting[monk] = mayMend ? fittingSkips(law, house, sights, monk) : 0;
                if (fitting[monk] != 0) {
                    skippers |= 1 << monk;
                }
                size += Integer.bitCount(fitting[monk]);
            }
        }

        /** How many worlds are left, by the worse answer of a monk asked whether he bows then. */
        int leftAtTheMost(int law, House house, int monk, int breaths) {
            int bowing = 0;
            for (int skipped = 0; skipped <= MOST_SKIPPED; skipped++) {
                if (bowsThen(law, house, monk, skipped, breaths)) {
                    bowing |= 1 << skipped;
                }
            }
            int yes = Integer.bitCount(fitting[monk] & bowing);
            if ((bowing & 1) != 0) {
                yes += size - Integer.bitCount(fitting[monk]);
            }
            return Math.max(yes, size - yes);
        }

        private static int monksSeenOtherwise(int law, House house, Sights sights) {
            int wrong = 0;
            for (int i = 0; i < sights.size; i++) {
                if (!isSo(law, house, sights, i, 0)) {
                    wrong |= 1 << sights.monks[i];
                }
            }
            return wrong;
        }

        private static int fittingSkips(int law, House house, Sights sights, int monk) {
            int fits = 0;
            for (int skipped = 1; skipped <= MOST_SKIPPED; skipped++) {
                boolean allSo = true;
                for (int i = 0; i < sights.size && allSo; i++) {
                    allSo = sights.monks[i] != monk || isSo(law, house, sights, i, skipped);
                }
                if (allSo) {
                    fits |= 1 << skipped;
                }
            }
            return fits;
        }

        private static boolean isSo(int law, House house, Sights sights, int i, int skipped) {
            return bowsThen(law, house, sights.monks[i], skipped, sights.breaths[i]) == sights.bowed[i];
        }

        private static boolean bowsThen(int law, House house, int monk, int skipped, int breaths) {
            return house.isAwake(monk) && Laws.bowAt(law, house.countBehind(monk, skipped, breaths));
        }
    }

    /** Chances of bees, in whole numbers. */
    private static final class Fractions {
        static long powerOfTen(int exponent) {
            long power = 1;
            for (int i = 0; i < exponent; i++) {
                power *= 10;
            }
            return power;
        }

        /**
         * The upper number over 10 to the m. After a bee all that was before is forgotten: so it is told
         * apart by how many breaths have come behind the last bee, and whether there was one at all.
         */
        static long beesInTenths(House house, int monk, int m, int t, boolean ofNought) {
            int pace = house.paces[monk];
            long noBeeSince = 1;
            long sum = 0;
            for (int since = 0; since < m; since++) {
                long weight = noBeeSince * t * powerOfTen(m - 1 - since);
                sum += weight * worth(house.start - since * pace, ofNought);
                noBeeSince *= 10 - t;
            }
            return sum + noBeeSince * worth(house.counts[monk] - m * pace, ofNought);
        }

        private static long worth(int left, boolean ofNought) {
            if (ofNought) {
                return left <= 0 ? 1 : 0;
            }
            return Math.max(0, left);
        }

        static long partInLowestTerms(long upper, long lower, int part) {
            long common = greatestDivisor(upper, lower);
            long told = part == 0 ? upper : lower;
            return common > 0 ? told / common : told;
        }

        private static long greatestDivisor(long one, long other) {
            long divisor = one;
            long rest = other;
            // Euclid's steps on longs are fewer than 100.
            for (int step = 0; step < 100 && rest != 0; step++) {
                long smaller = divisor % rest;
                divisor = rest;
                rest = smaller;
            }
            return divisor;
        }
    }

    /** A year by draws, in a house of its own, so that nothing is done in fact. */
    private static final class Year {
        final House house = new House();
        int actsToNought;

        void pass(House from, int seed, int acts) {
            house.copyFrom(from);
            actsToNought = 0;
            int x = seed;
            for (int act = 0; act < acts; act++) {
                x = (75 * x + 74) % 65537;
                int before = house.atNought();
                passAct(monkDrawn(x), signDrawn(x));
                if ((house.atNought() & ~before) != 0) {
                    actsToNought++;
                }
            }
        }

        private void passAct(int monk, int sign) {
            if (house.whyNot(monk, sign) == 0) {
                house.act(monk, sign);
            }
        }

        private static int monkDrawn(int x) {
            return isWithin(x % 8, 2, 5) ? x / 8 % 8 : NOBODY;
        }

        private static int signDrawn(int x) {
            switch (x % 8) {
                case 0:
                    return BELL;
                case 1:
                    return BEE;
                case 2:
                    return COUGH;
                case 3:
                    return ELBOW;
                case 4:
                    return FIRST_LETTER + x / 64 % 8;
                case 5:
                    return WAKE;
                default:
                    return TEN_BREATHS;
            }
        }
    }

    /** All but the pad, as it was when it was kept. */
    private static final class Image {
        boolean isKept;
        private final House house = new House();
        private final Sights sights = new Sights();

        void keep(House nowHouse, Sights nowSights) {
            house.copyFrom(nowHouse);
            sights.copyFrom(nowSights);
            isKept = true;
        }

        void giveBack(House nowHouse, Sights nowSights) {
            nowHouse.copyFrom(house);
            nowSights.copyFrom(sights);
        }
    }
}
