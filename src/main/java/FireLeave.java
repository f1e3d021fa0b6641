import java.util.Arrays;

/**
 * Fire asks leave at the doors of a wooden city. Every call answers by a number, as the document's
 * promises tell; what is refused changes nothing but the tape.
 */
public final class FireLeave {
    public static final int BAD = -1, STATE = -2, FULL = -3, NONE = -4;

    private static final int POLITE = 0, RUDE = 1, DEAF = 2, COOK = 3;
    private static final int KINDS = 4;
    private static final int MOST_HOUSES = 5;
    private static final int MOST_WORTH = 99;
    private static final int MOST_HUNGER = 20;
    private static final int MOST_TEMPER = 9;
    private static final int FIRST_HUNGER = 3;
    private static final int WEEK = 7;
    private static final int MOST_OFFER = 20;
    private static final int MOST_NIGHT = 999;

    private static final int RUN_NIGHTS = 30;
    private static final int PLAN_NIGHTS = 20;
    private static final int BARE_NIGHTS = 60;
    private static final int DRIFT_NIGHTS = 60;
    private static final int SEEN_NIGHTS = 9;

    private static final int MOST_BYTES = 160;
    private static final int MOST_TOLD_OFFERS = 4;
    private static final int MOST_SEEN = 6;
    private static final int MOST_CELLS = 40;
    private static final int MOST_READ = 20;
    private static final int IMAGES = 2;
    private static final int SHEETS = 4;
    private static final int LANES = 3;

    private static final int TEAR_NULL = 1, TEAR_INDEX = 2, TEAR_CAST = 3, TEAR_SIZE = 4;

    private static final int[] FACTORIAL = {1, 1, 2, 6, 24, 120};

    private final TextReader reader;
    private final City now;
    private final City trial;
    private final Sightings seen;
    private final Image[] images;
    private final Sheet[] sheets;
    /** Worth of each house behind each of the nights that may be seen, by the kinds last tried. */
    private final int[] left;
    /** How many kinds that fit leave a house with each worth: a row for each house and night. */
    private final int[] tally;
    private int latestFault;
    private int latestTear;

    public FireLeave() {
        reader = new TextReader();
        now = new City();
        trial = new City();
        seen = new Sightings();
        images = new Image[IMAGES];
        for (int k = 0; k < IMAGES; k++) {
            images[k] = new Image();
        }
        sheets = new Sheet[SHEETS];
        for (int k = 0; k < SHEETS; k++) {
            sheets[k] = new Sheet();
        }
        left = new int[MOST_HOUSES * SEEN_NIGHTS];
        tally = new int[MOST_HOUSES * SEEN_NIGHTS * (MOST_WORTH + 1)];
    }

    // ---- the text

    public int feed(int c) {
        if (outside(c, 0, 127)) {
            return BAD;
        }
        return reader.tape.append(c) ? reader.tape.length : FULL;
    }

    public int end(int n) {
        Tape tape = reader.tape;
        if (outside(n, 0, tape.length)) {
            return BAD;
        }
        int had = tape.length;
        tape.length = n;
        return had;
    }

    public int text() {
        reader.takeText();
        reader.tape.length = 0;
        latestFault = reader.fault;
        if (reader.fault != 0) {
            return -10 - reader.faultPlace;
        }
        now.becomeLike(reader.told);
        seen.size = 0;
        for (int k = 0; k < IMAGES; k++) {
            images[k].there = false;
        }
        return reader.lines;
    }

    public int fault() {
        return latestFault;
    }

    public int rule(int what) {
        switch (what) {
            case 0: return now.houses;
            case 1: return now.at;
            case 2: return now.hunger;
            case 3: return now.temper;
            case 4: return now.rainBits;
            case 5: return now.night;
            case 6: return now.burnt;
            case 7: return now.given;
            case 8: return now.allWorth();
            default: return BAD;
        }
    }

    public int house(int h, int what) {
        if (!now.has(h)) {
            return BAD;
        }
        switch (what) {
            case 0: return now.kind[h];
            case 1: return now.worth[h];
            case 2: return now.lost[h];
            default: return BAD;
        }
    }

    // ---- what is changed

    public int alter(int h, int what, int v) {
        if (!now.has(h) || outside(what, 0, 1) || outside(v, 0, what == 0 ? KINDS - 1 : MOST_WORTH)) {
            return BAD;
        }
        int[] row = what == 0 ? now.kind : now.worth;
        int was = row[h];
        row[h] = v;
        return was;
    }

    public int set(int what, int v) {
        int was = BAD;
        if (what == 1 && now.has(v)) {
            was = now.at;
            now.at = v;
        } else if (what == 2 && !outside(v, 0, MOST_HUNGER)) {
            was = now.hunger;
            now.hunger = v;
        } else if (what == 3 && !outside(v, 0, MOST_TEMPER)) {
            was = now.temper;
            now.temper = v;
        }
        return was;
    }

    public int rain(int d, boolean is) {
        if (outside(d, 0, WEEK - 1)) {
            return BAD;
        }
        int was = now.rainBits >> d & 1;
        int others = now.rainBits & ~(1 << d);
        now.rainBits = is ? others | 1 << d : others;
        return was;
    }

    public int offer(int h, int n) {
        return now.giveAhead(h, n);
    }

    // ---- nights

    public int go(int n) {
        if (outside(n, 0, RUN_NIGHTS)) {
            return BAD;
        }
        if (now.night + n > MOST_NIGHT) {
            return FULL;
        }
        int before = now.burnt;
        now.passNights(n);
        return now.burnt - before;
    }

    public int runs(int n, int what) {
        if (outside(n, 0, RUN_NIGHTS) || outside(what, 0, 5)) {
            return BAD;
        }
        startTrial();
        int first = NONE;
        for (int i = 1; i <= n; i++) {
            trial.passNight();
            if (first == NONE && trial.burnt > 0) {
                first = i;
            }
        }
        switch (what) {
            case 0: return trial.burnt;
            case 1: return trial.given;
            case 2: return trial.hunger;
            case 3: return trial.temper;
            case 4: return trial.at;
            default: return first;
        }
    }

    public int ahead(int h, int n) {
        if (!now.has(h) || outside(n, 0, RUN_NIGHTS)) {
            return BAD;
        }
        startTrial();
        trial.passNights(n);
        return trial.worth[h];
    }

    public int bare(int h) {
        if (!now.has(h)) {
            return BAD;
        }
        startTrial();
        for (int i = 0; i <= BARE_NIGHTS; i++) {
            if (trial.worth[h] == 0) {
                return i;
            }
            trial.passNight();
        }
        return NONE;
    }

    // ---- who should be home

    public int best(int n, int what) {
        int h = what - 10;
        if (outside(n, 0, PLAN_NIGHTS) || (what != 0 && !now.has(h))) {
            return BAD;
        }
        int all = now.allKinds();
        int first = 0;
        int least = lossByKinds(0, n);
        // A loss of 0 can't be bettered, so no more need be tried behind it.
        for (int kinds = 1; kinds < all && least > 0; kinds++) {
            int loss = lossByKinds(kinds, n);
            if (loss < least) {
                least = loss;
                first = kinds;
            }
        }
        return what == 0 ? least : now.kindBy(first, h);
    }

    public int change(int n, int what) {
        if (outside(n, 0, PLAN_NIGHTS) || outside(what, 0, 1)) {
            return BAD;
        }
        int least = lossAsItIs(n);
        int who = NONE;
        for (int h = 0; h < now.houses; h++) {
            for (int kind = 0; kind < KINDS; kind++) {
                int loss = playWith(1 << h, kind, n).loss();
                if (loss < least) {
                    least = loss;
                    who = 10 * h + kind;
                }
            }
        }
        if (who == NONE) {
            return NONE;
        }
        return what == 0 ? who : least;
    }

    public int cooks(int n, int what) {
        if (outside(n, 0, PLAN_NIGHTS) || outside(what, 0, 1)) {
            return BAD;
        }
        int fewest = MOST_HOUSES + 1;
        int least = NONE;
        for (int some = 0; some < 1 << now.houses; some++) {
            int size = Integer.bitCount(some);
            if (size < fewest && playWith(some, COOK, n).burnt == 0) {
                fewest = size;
                least = some;
            }
        }
        if (least == NONE) {
            return NONE;
        }
        return what == 0 ? fewest : least;
    }

    public int appease(int h, int n) {
        if (!now.has(h) || outside(n, 0, PLAN_NIGHTS)) {
            return BAD;
        }
        for (int much = 0; much <= MOST_OFFER && much <= now.worth[h]; much++) {
            startTrial();
            if (much > 0) {
                trial.giveAhead(h, much);
            }
            trial.passNights(n);
            if (trial.burntOf[h] == 0) {
                return much;
            }
        }
        return NONE;
    }

    public int pray(int n) {
        if (outside(n, 0, PLAN_NIGHTS)) {
            return BAD;
        }
        int asItIs = lossAsItIs(n);
        int nights = 0;
        for (int d = 0; d < WEEK; d++) {
            startTrial();
            trial.rainBits |= 1 << d;
            trial.passNights(n);
            if (trial.loss() < asItIs) {
                nights |= 1 << d;
            }
        }
        return nights;
    }

    // ---- shares

    public int value(int some, int n) {
        if (outside(some, 0, (1 << now.houses) - 1) || outside(n, 0, PLAN_NIGHTS)) {
            return BAD;
        }
        return 1000 + lossAsItIs(n) - playWith(some, COOK, n).loss();
    }

    public long share(int h, int n, int what) {
        if (!now.has(h) || outside(n, 0, PLAN_NIGHTS) || outside(what, 0, 1)) {
            return BAD;
        }
        long sum = 0;
        for (int some = 0; some < 1 << now.houses; some++) {
            if ((some >> h & 1) == 0) {
                int before = Integer.bitCount(some);
                int behind = now.houses - 1 - before;
                int grown = playWith(some, COOK, n).loss() - playWith(some | 1 << h, COOK, n).loss();
                sum += (long) grown * factorial(before) * factorial(behind);
            }
        }
        return partOfFraction(sum, factorial(now.houses), what);
    }

    // ---- who is out

    public long luck(int v, int n, int what) {
        if (outside(v, 0, 10) || outside(n, 0, PLAN_NIGHTS) || outside(what, 0, 1)) {
            return BAD;
        }
        long sum = 0;
        for (int out = 0; out < 1 << now.houses; out++) {
            if (playWith(out, DEAF, n).burnt == 0) {
                sum += oddsOfOut(out, v);
            }
        }
        return partOfFraction(sum, power(10, now.houses), what);
    }

    public long mean(int v, int n, int what) {
        if (outside(v, 0, 10) || outside(n, 0, PLAN_NIGHTS) || outside(what, 0, 1)) {
            return BAD;
        }
        long sum = 0;
        for (int out = 0; out < 1 << now.houses; out++) {
            sum += oddsOfOut(out, v) * playWith(out, DEAF, n).loss();
        }
        return partOfFraction(sum, power(10, now.houses), what);
    }

    // ---- what was left

    public int see(int h, int n, int v) {
        if (!now.has(h) || outside(n, 1, SEEN_NIGHTS) || outside(v, 0, MOST_WORTH)) {
            return BAD;
        }
        return seen.append(h, n, v) ? seen.size : FULL;
    }

    public int forget(int n) {
        if (outside(n, 0, seen.size)) {
            return BAD;
        }
        int were = seen.size;
        seen.size = n;
        return were;
    }

    public int fits(int what) {
        int h = what - 10;
        if (outside(what, 0, 1) && !now.has(h)) {
            return BAD;
        }
        int all = now.allKinds();
        int many = 0;
        int first = NONE;
        int inHouse = 0;
        int nights = seen.mostNights();
        for (int kinds = 0; kinds < all; kinds++) {
            tryKinds(kinds, nights);
            if (seen.agreesWith(left)) {
                many++;
                first = first == NONE ? kinds : first;
                inHouse |= 1 << now.kindBy(kinds, h);
            }
        }
        if (what == 0) {
            return many;
        }
        return what == 1 ? first : inHouse;
    }

    public int look(int what) {
        if (outside(what, 0, 1)) {
            return BAD;
        }
        int fewest = tallyFitting();
        int where = NONE;
        for (int h = 0; h < now.houses; h++) {
            for (int n = 1; n <= SEEN_NIGHTS; n++) {
                int worst = mostInRow(slot(h, n));
                if (worst < fewest) {
                    fewest = worst;
                    where = 10 * h + n;
                }
            }
        }
        if (where == NONE) {
            return NONE;
        }
        return what == 0 ? where : fewest;
    }

    // ---- by a seed

    public int drift(int seed, int n, int what) {
        if (outside(n, 1, DRIFT_NIGHTS) || outside(what, 0, 1)) {
            return BAD;
        }
        if (now.houses == 0) {
            return STATE;
        }
        startTrial();
        int grown = seed;
        for (int i = 0; i < n; i++) {
            grown = grown * 1103515245 + 12345;
            int got = grown >>> 16 & 0x7fff;
            if (got % 8 >= 2) {
                trial.putKind(trial.at, got / 8 % KINDS);
                trial.ask();
            }
        }
        return what == 0 ? trial.burnt : trial.allWorth();
    }

    // ---- images, sheets

    public int keep(int k) {
        if (outside(k, 0, IMAGES - 1)) {
            return BAD;
        }
        Image image = images[k];
        int was = image.there ? 1 : 0;
        image.there = true;
        image.city.becomeLike(now);
        image.seen.becomeLike(seen);
        return was;
    }

    public int back(int k) {
        if (outside(k, 0, IMAGES - 1)) {
            return BAD;
        }
        Image image = images[k];
        if (!image.there) {
            return STATE;
        }
        now.becomeLike(image.city);
        seen.becomeLike(image.seen);
        return now.night;
    }

    public int sheet(int k, int lane, int n) {
        if (outside(k, 0, SHEETS - 1) || outside(lane, 0, LANES - 1) || n > MOST_CELLS) {
            return BAD;
        }
        if (n < 0) {
            return -10 - TEAR_SIZE;
        }
        sheets[k].renew(lane, n);
        return 1;
    }

    public int lay(int k, int i, int v) {
        if (outside(k, 0, SHEETS - 1)) {
            return BAD;
        }
        Sheet sheet = sheets[k];
        int tear = sheet.tearAt(sheet.lane, i);
        if (tear != 0) {
            return -10 - tear;
        }
        sheet.put(i, v);
        return 1;
    }

    public int read(int k, int lane, int f, int n) {
        if (outside(k, 0, SHEETS - 1) || outside(lane, 0, LANES - 1) || outside(n, 0, MOST_READ)) {
            return BAD;
        }
        Sheet sheet = sheets[k];
        // The offers are made to a copy, for one that is refused undoes those ahead of it.
        trial.becomeLike(now);
        int tear = 0;
        int came = 0;
        for (int i = 0; i < n && tear == 0; i++) {
            int place = f + 2 * i;
            tear = sheet.tearOfPair(lane, place);
            if (tear == 0) {
                if (trial.giveAhead(sheet.cellAt(place), sheet.cellAt(place + 1)) < 0) {
                    return -20 - i;
                }
                came++;
            }
        }
        now.becomeLike(trial);
        latestTear = tear;
        return came;
    }

    public int torn() {
        return latestTear;
    }

    public int count(int what) {
        switch (what) {
            case 0: return now.allLost();
            case 1: return seen.size;
            case 2: return imagesKept();
            case 3: return reader.tape.length;
            case 4: return sheets[0].there ? sheets[0].size : NONE;
            default: return BAD;
        }
    }

    // ---- helpers of the calls

    private static boolean outside(int v, int low, int high) {
        return v < low || v > high;
    }

    private void startTrial() {
        trial.becomeLike(now);
        trial.forgetLoss();
    }

    private int lossAsItIs(int n) {
        startTrial();
        trial.passNights(n);
        return trial.loss();
    }

    private int lossByKinds(int kinds, int n) {
        startTrial();
        trial.putKinds(kinds);
        trial.passNights(n);
        return trial.loss();
    }

    /** The trial behind n nights in which somebody of this kind answers in each of some houses. */
    private City playWith(int some, int kind, int n) {
        startTrial();
        trial.putKindIn(some, kind);
        trial.passNights(n);
        return trial;
    }

    /** Out of ten to the power of how many houses there are. */
    private long oddsOfOut(int out, int v) {
        int many = Integer.bitCount(out);
        return power(v, many) * power(10 - v, now.houses - many);
    }

    private static long power(int base, int exponent) {
        long product = 1;
        for (int i = 0; i < exponent; i++) {
            product *= base;
        }
        return product;
    }

    private static long factorial(int n) {
        return outside(n, 0, MOST_HOUSES) ? 0 : FACTORIAL[n];
    }

    private static long partOfFraction(long upper, long lower, int what) {
        long common = commonDivisor(Math.abs(upper), lower);
        if (common == 0) {
            return 0;
        }
        return what == 0 ? upper / common : lower / common;
    }

    private static long commonDivisor(long one, long other) {
        long a = one;
        long b = other;
        // Each two steps halve the greater one at the least, so a long needs fewer than 128.
        for (int i = 0; i < 128 && b != 0; i++) {
            long rest = a % b;
            a = b;
            b = rest;
        }
        return a;
    }

    private static int slot(int h, int n) {
        return h * SEEN_NIGHTS + n - 1;
    }

    /** Fills left for nights 1 to n of a trial in which these kinds answer. */
    private void tryKinds(int kinds, int n) {
        startTrial();
        trial.putKinds(kinds);
        for (int i = 1; i <= n && i <= SEEN_NIGHTS; i++) {
            trial.passNight();
            for (int h = 0; h < trial.houses; h++) {
                left[slot(h, i)] = trial.worth[h];
            }
        }
    }

    /** How many kinds fit; what they leave is counted in tally. */
    private int tallyFitting() {
        Arrays.fill(tally, 0);
        int all = now.allKinds();
        int used = now.houses * SEEN_NIGHTS;
        int many = 0;
        for (int kinds = 0; kinds < all; kinds++) {
            tryKinds(kinds, SEEN_NIGHTS);
            if (seen.agreesWith(left)) {
                many++;
                for (int i = 0; i < used; i++) {
                    tally[i * (MOST_WORTH + 1) + left[i]]++;
                }
            }
        }
        return many;
    }

    private int mostInRow(int row) {
        int from = row * (MOST_WORTH + 1);
        int most = 0;
        for (int i = 0; i <= MOST_WORTH; i++) {
            most = Math.max(most, tally[from + i]);
        }
        return most;
    }

    private int imagesKept() {
        int many = 0;
        for (int k = 0; k < IMAGES; k++) {
            if (images[k].there) {
                many++;
            }
        }
        return many;
    }

    /** The houses, the fire, the rain and what the nights have come to. */
    private static final class City {
        final int[] kind = new int[MOST_HOUSES];
        final int[] worth = new int[MOST_HOUSES];
        final int[] lost = new int[MOST_HOUSES];
        /** What was burnt of each house since forgetLoss(); no copy takes it over. */
        final int[] burntOf = new int[MOST_HOUSES];
        int houses;
        int at;
        int hunger = FIRST_HUNGER;
        int temper;
        int rainBits;
        int night;
        int burnt;
        int given;

        void clear() {
            houses = 0;
            at = 0;
            hunger = FIRST_HUNGER;
            temper = 0;
            rainBits = 0;
            night = 0;
            burnt = 0;
            given = 0;
        }

        void becomeLike(City other) {
            System.arraycopy(other.kind, 0, kind, 0, MOST_HOUSES);
            System.arraycopy(other.worth, 0, worth, 0, MOST_HOUSES);
            System.arraycopy(other.lost, 0, lost, 0, MOST_HOUSES);
            houses = other.houses;
            at = other.at;
            hunger = other.hunger;
            temper = other.temper;
            rainBits = other.rainBits;
            night = other.night;
            burnt = other.burnt;
            given = other.given;
        }

        /** From here on burnt, given and burntOf tell of what is to come alone. */
        void forgetLoss() {
            burnt = 0;
            given = 0;
            Arrays.fill(burntOf, 0);
        }

        int loss() {
            return burnt + given;
        }

        boolean has(int h) {
            return h >= 0 && h < houses;
        }

        void addHouse(int newKind, int newWorth) {
            if (houses >= MOST_HOUSES) {
                return;
            }
            kind[houses] = newKind;
            worth[houses] = newWorth;
            lost[houses] = 0;
            houses++;
        }

        int allWorth() {
            int sum = 0;
            for (int h = 0; h < houses; h++) {
                sum += worth[h];
            }
            return sum;
        }

        int allLost() {
            int sum = 0;
            for (int h = 0; h < houses; h++) {
                sum += lost[h];
            }
            return sum;
        }

        /** How many numbers to the base 4 tell kinds of all houses. */
        int allKinds() {
            return 1 << 2 * houses;
        }

        int kindBy(int kinds, int h) {
            return has(h) ? kinds >> 2 * (houses - 1 - h) & 3 : POLITE;
        }

        void putKinds(int kinds) {
            for (int h = 0; h < houses; h++) {
                kind[h] = kindBy(kinds, h);
            }
        }

        void putKind(int h, int newKind) {
            if (has(h)) {
                kind[h] = newKind;
            }
        }

        void putKindIn(int some, int newKind) {
            for (int h = 0; h < houses; h++) {
                if ((some >> h & 1) == 1) {
                    kind[h] = newKind;
                }
            }
        }

        /** An offer ahead: hunger then, or why it is refused. */
        int giveAhead(int h, int n) {
            if (!has(h) || outside(n, 1, MOST_OFFER)) {
                return BAD;
            }
            if (worth[h] < n) {
                return STATE;
            }
            give(h, n);
            return hunger;
        }

        void passNights(int n) {
            for (int i = 0; i < n; i++) {
                passNight();
            }
        }

        void passNight() {
            if ((rainBits >> night % WEEK & 1) == 0) {
                ask();
            }
            night++;
        }

        /** Fire asks at its house and goes on to the next one. */
        void ask() {
            if (!has(at)) {
                return;
            }
            int next = at + 1 < houses ? at + 1 : 0;
            // A cook who has nothing left answers as the polite do.
            int answer = kind[at] == COOK && worth[at] == 0 ? POLITE : kind[at];
            switch (answer) {
                case RUDE:
                    temper = Math.min(temper + 1, MOST_TEMPER);
                    burn(next, temper);
                    break;
                case DEAF:
                    hunger -= burn(at, hunger);
                    break;
                case COOK:
                    give(at, 1);
                    temper = Math.max(temper - 1, 0);
                    break;
                default:
                    hunger = Math.min(hunger + 1, MOST_HUNGER);
                    break;
            }
            at = next;
        }

        private void give(int h, int n) {
            worth[h] -= n;
            lost[h] += n;
            given += n;
            hunger = Math.max(hunger - n, 0);
        }

        private int burn(int h, int wanted) {
            int taken = Math.min(wanted, worth[h]);
            worth[h] -= taken;
            lost[h] += taken;
            burntOf[h] += taken;
            burnt += taken;
            return taken;
        }
    }

    /** What was seen: behind so many nights a house has so much worth. */
    private static final class Sightings {
        final int[] where = new int[MOST_SEEN];
        final int[] nights = new int[MOST_SEEN];
        final int[] worth = new int[MOST_SEEN];
        int size;

        boolean append(int h, int n, int v) {
            if (size >= MOST_SEEN) {
                return false;
            }
            where[size] = h;
            nights[size] = n;
            worth[size] = v;
            size++;
            return true;
        }

        void becomeLike(Sightings other) {
            System.arraycopy(other.where, 0, where, 0, MOST_SEEN);
            System.arraycopy(other.nights, 0, nights, 0, MOST_SEEN);
            System.arraycopy(other.worth, 0, worth, 0, MOST_SEEN);
            size = other.size;
        }

        int mostNights() {
            int most = 0;
            for (int i = 0; i < size; i++) {
                most = Math.max(most, nights[i]);
            }
            return most;
        }

        boolean agreesWith(int[] left) {
            for (int i = 0; i < size; i++) {
                if (left[slot(where[i], nights[i])] != worth[i]) {
                    return false;
                }
            }
            return true;
        }
    }

    /** The city and what was seen, as they were once. */
    private static final class Image {
        final City city = new City();
        final Sightings seen = new Sightings();
        boolean there;
    }

    /** A row of cells of one lane, or nothing. */
    private static final class Sheet {
        final int[] cells = new int[MOST_CELLS];
        boolean there;
        int lane;
        int size;

        void renew(int newLane, int newSize) {
            Arrays.fill(cells, 0);
            there = true;
            lane = newLane;
            size = newSize;
        }

        /** What the machine would find, were cell i reached for in a row of this lane; 0: nothing. */
        int tearAt(int asLane, int i) {
            if (!there) {
                return TEAR_NULL;
            }
            if (lane != asLane) {
                return TEAR_CAST;
            }
            return outside(i, 0, size - 1) ? TEAR_INDEX : 0;
        }

        int tearOfPair(int asLane, int i) {
            int tear = tearAt(asLane, i);
            return tear != 0 ? tear : tearAt(asLane, i + 1);
        }

        int cellAt(int i) {
            return outside(i, 0, MOST_CELLS - 1) ? 0 : cells[i];
        }

        void put(int i, int v) {
            if (outside(i, 0, MOST_CELLS - 1)) {
                return;
            }
            switch (lane) {
                case 0:
                    cells[i] = (byte) v;
                    break;
                case 1:
                    cells[i] = (short) v;
                    break;
                default:
                    cells[i] = v;
                    break;
            }
        }
    }

    /** The bytes that have been fed, cut into tokens one at a time as they are asked for. */
    private static final class Tape {
        static final int END = 0, NAME = 1, NUMBER = 2, STOP = 3, NO_TOKEN = 4;
        private static final int BLANK = 5;

        private final byte[] bytes = new byte[MOST_BYTES];
        private int next;
        int length;
        int start;

        boolean append(int c) {
            if (length >= MOST_BYTES) {
                return false;
            }
            bytes[length] = (byte) c;
            length++;
            return true;
        }

        void rewind() {
            next = 0;
            start = 0;
        }

        /** Takes the next token; start is its place then, the length at the end. */
        int takeToken() {
            while (next < length && signAt(next) == BLANK) {
                next++;
            }
            start = next;
            int sign = signAt(start);
            if (sign == END) {
                return END;
            }
            next++;
            if (sign == NAME || sign == NUMBER) {
                while (next < length && signAt(next) == sign) {
                    next++;
                }
            }
            return sign == NUMBER && next - start > 2 ? NO_TOKEN : sign;
        }

        /** The kind of token that the byte at a place belongs to. */
        private int signAt(int place) {
            if (place < 0 || place >= length) {
                return END;
            }
            int c = bytes[place];
            if (c == ' ') {
                return BLANK;
            }
            if (c == ';') {
                return STOP;
            }
            if (c >= 'a' && c <= 'z') {
                return NAME;
            }
            return c >= '0' && c <= '9' ? NUMBER : NO_TOKEN;
        }

        /** Whether the name just taken is this one. */
        boolean nameIs(String name) {
            if (next - start != name.length()) {
                return false;
            }
            for (int i = start; i < next; i++) {
                if (bytes[i] != name.charAt(i - start)) {
                    return false;
                }
            }
            return true;
        }

        /** What the number just taken comes to. */
        int number() {
            int sum = 0;
            for (int i = start; i < next; i++) {
                sum = 10 * sum + bytes[i] - '0';
            }
            return sum;
        }
    }

    /** Reads a text into a city of its own, so that a faulty one leaves what was told before. */
    private static final class TextReader {
        // A line that tells of a house bears the number of the kind that answers in it.
        private static final int FIRE = 4, RAIN = 5, OFFER = 6, NO_LINE = 7;
        private static final int FAULT_TOKEN = 1, FAULT_PLACE = 2, FAULT_BOUNDS = 3, FAULT_TWICE = 4,
                FAULT_MANY = 5, FAULT_HOUSE = 6, FAULT_OFFER = 7;

        final Tape tape = new Tape();
        final City told = new City();
        private final int[] offerHouse = new int[MOST_TOLD_OFFERS];
        private final int[] offerMuch = new int[MOST_TOLD_OFFERS];
        private int offers;
        private boolean fireTold;
        int lines;
        int fault;
        int faultPlace;

        /** Afterwards fault is 0 and told holds the city, or fault and faultPlace tell what is wrong. */
        void takeText() {
            tape.rewind();
            told.clear();
            offers = 0;
            fireTold = false;
            lines = 0;
            fault = 0;
            int token = tape.takeToken();
            // A line takes up bytes, so a tape can't hold more lines than bytes.
            for (int i = 0; i < MOST_BYTES && fault == 0 && token != Tape.END; i++) {
                takeLine(token);
                if (fault == 0) {
                    lines++;
                    token = tape.takeToken();
                }
            }
            if (fault == 0) {
                checkHouses();
            }
            if (fault == 0) {
                makeOffers();
            }
        }

        private void fail(int newFault, int place) {
            if (fault == 0) {
                fault = newFault;
                faultPlace = place;
            }
        }

        private void refuseToken(int token) {
            fail(token == Tape.NO_TOKEN ? FAULT_TOKEN : FAULT_PLACE, tape.start);
        }

        private void takeLine(int token) {
            int line = token == Tape.NAME ? lineByName() : NO_LINE;
            switch (line) {
                case NO_LINE:
                    refuseToken(token);
                    break;
                case FIRE:
                    takeFire();
                    break;
                case RAIN:
                    takeRain();
                    break;
                case OFFER:
                    takeOffer();
                    break;
                default:
                    takeHouse(line);
                    break;
            }
            if (fault == 0) {
                takeStop();
            }
        }

        private void takeStop() {
            int token = tape.takeToken();
            if (token != Tape.STOP) {
                refuseToken(token);
            }
        }

        private int lineByName() {
            if (tape.nameIs("polite")) {
                return POLITE;
            }
            if (tape.nameIs("rude")) {
                return RUDE;
            }
            if (tape.nameIs("deaf")) {
                return DEAF;
            }
            if (tape.nameIs("cook")) {
                return COOK;
            }
            if (tape.nameIs("fire")) {
                return FIRE;
            }
            if (tape.nameIs("rain")) {
                return RAIN;
            }
            return tape.nameIs("offer") ? OFFER : NO_LINE;
        }

        /** The next number; where there is none, or it is out of bounds, the fault is set. */
        private int takeNumber(int low, int high) {
            if (fault != 0) {
                return low;
            }
            int token = tape.takeToken();
            if (token != Tape.NUMBER) {
                refuseToken(token);
                return low;
            }
            int number = tape.number();
            if (outside(number, low, high)) {
                fail(FAULT_BOUNDS, tape.start);
                return low;
            }
            return number;
        }

        private void takeHouse(int kind) {
            if (told.houses >= MOST_HOUSES) {
                fail(FAULT_MANY, tape.start);
                return;
            }
            told.addHouse(kind, takeNumber(0, MOST_WORTH));
        }

        private void takeFire() {
            if (fireTold) {
                fail(FAULT_TWICE, tape.start);
                return;
            }
            fireTold = true;
            told.at = takeNumber(0, MOST_HOUSES - 1);
            told.hunger = takeNumber(0, MOST_HUNGER);
            told.temper = takeNumber(0, MOST_TEMPER);
        }

        private void takeRain() {
            int bit = 1 << takeNumber(0, WEEK - 1);
            if ((told.rainBits & bit) != 0) {
                fail(FAULT_TWICE, tape.start);
            }
            told.rainBits |= bit;
        }

        private void takeOffer() {
            if (offers >= MOST_TOLD_OFFERS) {
                fail(FAULT_MANY, tape.start);
                return;
            }
            offerHouse[offers] = takeNumber(0, MOST_HOUSES - 1);
            offerMuch[offers] = takeNumber(1, MOST_OFFER);
            offers++;
        }

        private void checkHouses() {
            if (fireTold && !told.has(told.at)) {
                fail(FAULT_HOUSE, tape.length);
            }
            for (int i = 0; i < offers; i++) {
                if (!told.has(offerHouse[i])) {
                    fail(FAULT_HOUSE, tape.length);
                }
            }
        }

        private void makeOffers() {
            for (int i = 0; i < offers && fault == 0; i++) {
                if (told.giveAhead(offerHouse[i], offerMuch[i]) < 0) {
                    fail(FAULT_OFFER, tape.length);
                }
            }
        }
    }
}
