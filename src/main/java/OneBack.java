/**
 * Towns, laws, nights and sights told as texts on a tape, and what follows from them.
 * The numbered promises are in the project's document; README.md says how to use the class.
 */
public final class OneBack {
    /** There is none. */
    public static final int NONE = -1;

    private static final int NOT_SUCH = -2;
    private static final int NO_STATE = -1000;

    private static final int TAPE_BYTES = 600;
    private static final int FEED_BYTES = 20;
    private static final int SORTS = 4;
    private static final int PER_SORT = 2;
    private static final int SORT_TOWN = 0;
    private static final int SORT_LAW = 1;
    private static final int SORT_NIGHTS = 2;
    private static final int SORT_SIGHT = 3;
    private static final int IMAGES = 3;

    private static final int HOUSES = 6;
    private static final int GOODS = 5;
    private static final int THIEVES = 4;
    private static final int HOUSE_GOODS = HOUSES * GOODS;
    private static final int DEEDS = 40;
    private static final int GIFTS = 8;
    private static final int DOUBLE_NIGHTS = 20;
    private static final int LAST_NIGHT = 60;
    private static final int LAST_MEETING = 40;
    /** The dearest town: this many things in all, so no thief gives more than that. */
    private static final int MOST_THINGS = 9 * HOUSE_GOODS;

    private static final int TAKE = 0;
    private static final int GIVE = 1;
    private static final int SET = 2;
    private static final int NIGHT = 3;

    private final Told told;
    private final Told[] images;
    private final Reader reader;
    private final Walk walk;
    private final Supply supply;
    private final Porter porter;

    public OneBack() {
        told = new Told();
        images = new Told[IMAGES];
        reader = new Reader();
        walk = new Walk(told.towns[0], told.laws[0]);
        supply = new Supply();
        porter = new Porter(told.towns[0]);
    }

    public int feed(int a, int b, int c, int d, int e) {
        if (told.length > TAPE_BYTES - FEED_BYTES) {
            return NONE;
        }
        told.put(a);
        told.put(b);
        told.put(c);
        told.put(d);
        told.put(e);
        return told.length;
    }

    public int end(int n) {
        if (n < 0 || n > told.length) {
            return NONE;
        }
        told.length = n;
        return n;
    }

    public int text(int sort, int at) {
        told.fault = 0;
        told.place = NONE;
        int length = told.length;
        // The tape is taken even if no text is read of it.
        told.length = 0;
        int to = told.slot(sort, at);
        if (to == NONE) {
            return NOT_SUCH;
        }
        reader.read(told.tape, length, sort);
        told.fault = reader.fault;
        told.place = reader.place;
        if (reader.fault != 0) {
            return NONE;
        }
        told.keep(reader, sort, to);
        return to;
    }

    public int fault(int what) {
        if (what == 0) {
            return told.fault;
        }
        return what == 1 ? told.place : NONE;
    }

    public int town(int town, int what) {
        Town t = told.townAt(town);
        if (t == null) {
            return NOT_SUCH;
        }
        if (what == 0) {
            return t.houses;
        }
        if (what == 1) {
            return t.thieves;
        }
        if (what < 10) {
            return NOT_SUCH;
        }
        int at = what % 10;
        switch (what / 10) {
            case 1:
                return t.isHouse(at) ? t.watch[at] : NOT_SUCH;
            case 2:
                return t.isHouse(at) ? t.passes[at] : NOT_SUCH;
            case 3:
                return isGood(at) ? t.weight[at] : NOT_SUCH;
            case 4:
                return isGood(at) ? t.worth[at] : NOT_SUCH;
            case 5:
                return t.isThief(at) ? t.limit[at] : NOT_SUCH;
            case 6:
                return t.isThief(at) ? t.father[at] : NOT_SUCH;
            default:
                return NOT_SUCH;
        }
    }

    public int house(int town, int house, int good, int what) {
        Town t = told.townAt(town);
        if (t == null || !t.isHouse(house) || !isGood(good)) {
            return NONE;
        }
        switch (what) {
            case 0:
                return t.has[cell(house, good)];
            case 1:
                return t.needs[cell(house, good)];
            case 2:
                return t.spareOf(house, good);
            case 3:
                return t.lackOf(house, good);
            default:
                return NONE;
        }
    }

    public int law(int law, int what) {
        Law l = told.lawAt(law);
        if (l == null) {
            return NONE;
        }
        if (what == 0) {
            return l.rate;
        }
        if (what == 1) {
            return l.caughtAt;
        }
        if (what < 10 || what >= 10 + DOUBLE_NIGHTS) {
            return NONE;
        }
        return l.counts(what - 10) - 1;
    }

    public int deed(int nights, int k, int what) {
        Nights n = told.nightsAt(nights);
        if (n == null) {
            return NOT_SUCH;
        }
        if (k == NONE) {
            return what == 0 ? n.size : NOT_SUCH;
        }
        if (k < 0 || k >= n.size) {
            return NOT_SUCH;
        }
        switch (what) {
            case 0:
                return n.kind[k];
            case 1:
                return n.first[k];
            case 2:
                return n.second[k];
            case 3:
                return n.third[k];
            default:
                return NOT_SUCH;
        }
    }

    public int stop(int town, int law, int nights) {
        return walkTo(town, law, nights, DEEDS) ? walk.done : NONE;
    }

    public int state(int town, int law, int nights, int n, int what) {
        if (!walkJust(town, law, nights, n)) {
            return NO_STATE;
        }
        if (what == 0) {
            return walk.night;
        }
        if (what >= 10 && what < 20) {
            return Views.queued(walk, what - 10);
        }
        return Views.seen(walk, what);
    }

    public int goods(int town, int law, int nights, int n, int thief, int house, int good) {
        if (!isGood(good) || !walkJust(town, law, nights, n)) {
            return NONE;
        }
        boolean isThief = walk.town.isThief(thief);
        boolean isHouse = walk.town.isHouse(house);
        if (thief == NONE) {
            return isHouse ? walk.has[cell(house, good)] : NONE;
        }
        if (house == NONE) {
            return isThief ? walk.bag[GOODS * thief + good] : NONE;
        }
        return isThief && isHouse ? walk.took[cell(thief, house, good)] : NONE;
    }

    public int aid(int town, int what) {
        Town t = told.townAt(town);
        if (t == null || !Supply.isAsked(t, what)) {
            return NOT_SUCH;
        }
        return Supply.isEnough(t) ? Supply.answer(t, what) : NONE;
    }

    public int carry(int town) {
        Town t = told.townAt(town);
        return t == null ? NONE : supply.carryAll(t);
    }

    public int round(int town, int house) {
        Town t = told.townAt(town);
        if (t == null) {
            return NONE;
        }
        if (house == NONE) {
            return t.allHome();
        }
        return t.isHouse(house) ? t.homeAgain(house) : NONE;
    }

    public int meets(int town, int a, int b) {
        Town t = told.townAt(town);
        if (t == null || !t.isHouse(a) || !t.isHouse(b)) {
            return NONE;
        }
        return t.meeting(a, b);
    }

    public int sight(int sight, int what) {
        Sight s = told.sightAt(sight);
        if (s == null) {
            return NOT_SUCH;
        }
        if (what == 0) {
            return s.size;
        }
        if (what >= 10 && what < 10 + s.size) {
            return s.house[what - 10];
        }
        if (what >= 20 && what < 20 + s.size) {
            return s.good[what - 20];
        }
        if (what >= 30 && what < 30 + HOUSE_GOODS) {
            return s.left[what - 30];
        }
        return NOT_SUCH;
    }

    public int hands(int town, int law, int nights, int sight, int gift) {
        Sight s = told.sightAt(sight);
        if (s == null || gift < NONE || gift >= s.size || !walkTo(town, law, nights, DEEDS)) {
            return NONE;
        }
        return gift == NONE ? s.ways(walk) : s.mayBe(walk, gift);
    }

    public int moved(int town, int sight, boolean unseen) {
        Town t = told.townAt(town);
        Sight s = told.sightAt(sight);
        if (t == null || s == null) {
            return NONE;
        }
        return s.movedFrom(t, unseen);
    }

    public int quit(int law, int owes, int gifts, int from, int to) {
        Law l = told.lawAt(law);
        if (l == null || owes < 0 || owes > 40 || gifts < 1 || gifts > 9) {
            return NONE;
        }
        if (from < 0 || from >= DOUBLE_NIGHTS || to < NONE || to > LAST_NIGHT) {
            return NONE;
        }
        return to == NONE ? l.firstQuit(owes, gifts, from) : l.fewestGifts(owes, gifts, from, to);
    }

    public int alms(int n, boolean heavy) {
        if (n < 1 || n > 60) {
            return NONE;
        }
        if (!heavy || n == 1) {
            return weighings(n);
        }
        // If nobody knows its kind, and need not tell it, w weighings find one of (3^w - 1) / 2.
        return n == 2 ? NONE : weighings(2 * n + 1);
    }

    public int prize(int town, int own, int other) {
        Town t = told.townAt(town);
        if (t == null || !t.isHouse(own) || !t.isHouse(other)) {
            return NO_STATE;
        }
        return t.prizeOf(own, other);
    }

    public int rest(int town, int k) {
        Town t = told.townAt(town);
        return t == null || k < NONE ? NONE : t.restAt(k);
    }

    public int share(int town, int house, boolean under) {
        Town t = told.townAt(town);
        if (t == null || !t.isHouse(house)) {
            return NONE;
        }
        int all = 0;
        for (int h = 0; h < t.houses; h++) {
            all += t.worthIn(t.has, h);
        }
        return leastTerms(t.worthIn(t.has, house), all, under);
    }

    public int even(int town, int good) {
        Town t = told.townAt(town);
        return t == null || !isGood(good) ? NONE : t.evenOut(good);
    }

    public int drawn(int town, int law, int seed, int nights, int what) {
        Town t = told.townAt(town);
        Law l = told.lawAt(law);
        if (t == null || l == null || nights < 1 || nights > 30) {
            return NO_STATE;
        }
        walk.begin(t, l);
        walk.drawNights(seed, nights);
        if (what >= 70 && what < 70 + GOODS * t.houses) {
            return walk.has[what - 70];
        }
        return Views.seen(walk, what);
    }

    public int wealth(int town, int law, int nights, int n, int what) {
        if (!walkJust(town, law, nights, n)) {
            return NO_STATE;
        }
        return Views.rich(walk, what);
    }

    public int haul(int town, int house, int n, int w, int what) {
        Town t = told.townAt(town);
        if (t == null || !t.isHouse(house) || n < 0 || n > 9 || w < 0 || w > 99) {
            return NONE;
        }
        if (what != 0 && (what < 10 || what >= 10 + GOODS)) {
            return NONE;
        }
        porter.choose(t, house, n, w);
        return what == 0 ? porter.bestWorth : porter.best[what - 10];
    }

    public int crew(int town, int n, boolean bits) {
        Town t = told.townAt(town);
        if (t == null || n < 1 || n > 36) {
            return NONE;
        }
        int who = t.crewFor(n);
        return bits || who == NONE ? who : Integer.bitCount(who);
    }

    public int pairs(int town, int k) {
        Town t = told.townAt(town);
        return t == null || k < NONE ? NONE : t.pairAt(k);
    }

    public int count(int sort) {
        return sort < 0 || sort >= SORTS ? NOT_SUCH : told.counts[sort];
    }

    public boolean image(int k) {
        if (k < 0 || k >= IMAGES) {
            return false;
        }
        if (images[k] == null) {
            images[k] = new Told();
        }
        images[k].copy(told);
        return true;
    }

    public boolean again(int k) {
        if (k < 0 || k >= IMAGES || images[k] == null) {
            return false;
        }
        told.copy(images[k]);
        return true;
    }

    /** The walk is then behind the first n deeds, or behind fewer, if it stops; false: there is none such. */
    private boolean walkTo(int town, int law, int nights, int n) {
        Town t = told.townAt(town);
        Law l = told.lawAt(law);
        Nights d = told.nightsAt(nights);
        if (t == null || l == null || d == null) {
            return false;
        }
        walk.begin(t, l);
        walk.follow(d, n);
        return true;
    }

    /** The same, but false, too, if the nights stop ahead of n. */
    private boolean walkJust(int town, int law, int nights, int n) {
        return n >= 0 && n <= DEEDS && walkTo(town, law, nights, n) && walk.done == n;
    }

    private static boolean isGood(int good) {
        return good >= 0 && good < GOODS;
    }

    private static int cell(int house, int good) {
        return GOODS * house + good;
    }

    private static int cell(int thief, int house, int good) {
        return HOUSE_GOODS * thief + GOODS * house + good;
    }

    /** How often n can be parted by three, until one is left. */
    private static int weighings(int n) {
        int times = 0;
        for (int found = 1; found < n && times < 10; found *= 3) {
            times++;
        }
        return times;
    }

    private static int leastTerms(int part, int all, boolean under) {
        int divisor = commonDivisor(part, all);
        if (part <= 0 || divisor <= 0) {
            return under ? 1 : 0;
        }
        return (under ? all : part) / divisor;
    }

    private static int commonDivisor(int a, int b) {
        int x = a;
        int y = b;
        for (int step = 0; step < 64 && y > 0; step++) {
            int z = x % y;
            x = y;
            y = z;
        }
        return x;
    }

    private static void copyRow(int[] from, int[] to) {
        System.arraycopy(from, 0, to, 0, Math.min(from.length, to.length));
    }

    private static void fillRow(int[] row, int value) {
        for (int i = 0; i < row.length; i++) {
            row[i] = value;
        }
    }

    /** All that is told: what an image keeps. */
    private static final class Told {
        final byte[] tape = new byte[TAPE_BYTES];
        int length = 0;
        int fault = 0;
        int place = NONE;
        final int[] counts = new int[SORTS];
        final Town[] towns = new Town[PER_SORT];
        final Law[] laws = new Law[PER_SORT];
        final Nights[] nights = new Nights[PER_SORT];
        final Sight[] sights = new Sight[PER_SORT];

        Told() {
            for (int i = 0; i < PER_SORT; i++) {
                towns[i] = new Town();
                laws[i] = new Law();
                nights[i] = new Nights();
                sights[i] = new Sight();
            }
        }

        void put(int number) {
            for (int shift = 24; shift >= 0 && length < TAPE_BYTES; shift -= 8) {
                tape[length] = (byte) (number >>> shift);
                length++;
            }
        }

        boolean isThere(int sort, int k) {
            return k >= 0 && k < counts[sort] && k < PER_SORT;
        }

        Town townAt(int k) {
            return isThere(SORT_TOWN, k) ? towns[k] : null;
        }

        Law lawAt(int k) {
            return isThere(SORT_LAW, k) ? laws[k] : null;
        }

        Nights nightsAt(int k) {
            return isThere(SORT_NIGHTS, k) ? nights[k] : null;
        }

        Sight sightAt(int k) {
            return isThere(SORT_SIGHT, k) ? sights[k] : null;
        }

        /** Where a text of a sort would be kept; NONE, if it can't be. */
        int slot(int sort, int at) {
            if (sort < 0 || sort >= SORTS) {
                return NONE;
            }
            if (at == NONE) {
                return counts[sort] < PER_SORT ? counts[sort] : NONE;
            }
            return isThere(sort, at) ? at : NONE;
        }

        void keep(Reader reader, int sort, int to) {
            if (sort < 0 || sort >= SORTS || to < 0 || to >= PER_SORT) {
                return;
            }
            switch (sort) {
                case SORT_TOWN:
                    towns[to].copy(reader.town);
                    break;
                case SORT_LAW:
                    laws[to].copy(reader.law);
                    break;
                case SORT_NIGHTS:
                    nights[to].copy(reader.nights);
                    break;
                default:
                    sights[to].copy(reader.sight);
                    break;
            }
            counts[sort] = Math.max(counts[sort], to + 1);
        }

        void copy(Told other) {
            System.arraycopy(other.tape, 0, tape, 0, TAPE_BYTES);
            length = other.length;
            fault = other.fault;
            place = other.place;
            copyRow(other.counts, counts);
            for (int i = 0; i < PER_SORT; i++) {
                towns[i].copy(other.towns[i]);
                laws[i].copy(other.laws[i]);
                nights[i].copy(other.nights[i]);
                sights[i].copy(other.sights[i]);
            }
        }
    }

    /** A town as told. */
    private static final class Town {
        int houses;
        int thieves;
        final int[] has = new int[HOUSE_GOODS];
        final int[] needs = new int[HOUSE_GOODS];
        final int[] watch = new int[HOUSES];
        final int[] passes = new int[HOUSES];
        final int[] weight = new int[GOODS];
        final int[] worth = new int[GOODS];
        final int[] limit = new int[THIEVES];
        final int[] father = new int[THIEVES];

        Town() {
            clear();
        }

        void clear() {
            houses = 3;
            thieves = 0;
            fillRow(has, 0);
            fillRow(needs, 0);
            fillRow(watch, 0);
            for (int h = 0; h < HOUSES; h++) {
                passes[h] = h;
            }
            fillRow(weight, 1);
            fillRow(worth, 1);
            fillRow(limit, 0);
            fillRow(father, NONE);
        }

        void copy(Town other) {
            houses = other.houses;
            thieves = other.thieves;
            copyRow(other.has, has);
            copyRow(other.needs, needs);
            copyRow(other.watch, watch);
            copyRow(other.passes, passes);
            copyRow(other.weight, weight);
            copyRow(other.worth, worth);
            copyRow(other.limit, limit);
            copyRow(other.father, father);
        }

        boolean isHouse(int house) {
            return house >= 0 && house < houses && house < HOUSES;
        }

        boolean isThief(int thief) {
            return thief >= 0 && thief < thieves && thief < THIEVES;
        }

        void addThief(int most) {
            if (thieves < THIEVES) {
                limit[thieves] = most;
                thieves++;
            }
        }

        boolean areKin(int a, int b) {
            return father[a] == b || father[b] == a;
        }

        int spareOf(int house, int good) {
            return Math.max(0, has[cell(house, good)] - needs[cell(house, good)]);
        }

        int lackOf(int house, int good) {
            return Math.max(0, needs[cell(house, good)] - has[cell(house, good)]);
        }

        int spareOfAll(int good) {
            int all = 0;
            for (int h = 0; h < houses; h++) {
                all += spareOf(h, good);
            }
            return all;
        }

        int lackOfAll(int good) {
            int all = 0;
            for (int h = 0; h < houses; h++) {
                all += lackOf(h, good);
            }
            return all;
        }

        int limitOfAll() {
            int all = 0;
            for (int t = 0; t < thieves; t++) {
                all += limit[t];
            }
            return all;
        }

        /** Worth of all that a house has by a row of things, as told or as it is in a state. */
        int worthIn(int[] things, int house) {
            int all = 0;
            for (int g = 0; g < GOODS; g++) {
                all += worth[g] * things[cell(house, g)];
            }
            return all;
        }

        int evenOut(int good) {
            if (houses < 1) {
                return 0;
            }
            int all = 0;
            for (int h = 0; h < houses; h++) {
                all += has[cell(h, good)];
            }
            int part = all / houses;
            int above = 0;
            int rich = 0;
            for (int h = 0; h < houses; h++) {
                if (has[cell(h, good)] > part) {
                    above += has[cell(h, good)] - part;
                    rich++;
                }
            }
            // Who has more than its part may keep one of what can't be parted evenly.
            return above - Math.min(rich, all % houses);
        }

        int crewFor(int n) {
            int best = NONE;
            for (int who = 1; who < 1 << thieves; who++) {
                boolean fewer = best == NONE || Integer.bitCount(who) < Integer.bitCount(best);
                if (fewer && limitOf(who) >= n) {
                    best = who;
                }
            }
            return best;
        }

        int limitOf(int who) {
            int all = 0;
            for (int t = 0; t < thieves; t++) {
                if ((who >> t & 1) == 1) {
                    all += limit[t];
                }
            }
            return all;
        }

        /** The k-th pair, or how many there are (k NONE). */
        int pairAt(int k) {
            int found = 0;
            for (int a = 0; a < houses; a++) {
                for (int b = a + 1; b < houses; b++) {
                    if (helps(a, b) && helps(b, a)) {
                        if (found == k) {
                            return HOUSES * a + b;
                        }
                        found++;
                    }
                }
            }
            return k == NONE ? found : NONE;
        }

        boolean helps(int giver, int taker) {
            for (int g = 0; g < GOODS; g++) {
                if (spareOf(giver, g) > 0 && lackOf(taker, g) > 0) {
                    return true;
                }
            }
            return false;
        }

        /** The night on which a house's cow is home again. */
        int homeAgain(int house) {
            int where = house;
            for (int night = 1; night <= HOUSES; night++) {
                where = passes[where];
                if (where == house) {
                    return night;
                }
            }
            return NONE;
        }

        int allHome() {
            int all = 1;
            for (int h = 0; h < houses; h++) {
                int night = homeAgain(h);
                int divisor = commonDivisor(all, night);
                if (night == NONE || divisor < 1) {
                    return NONE;
                }
                all = all / divisor * night;
            }
            return all;
        }

        int meeting(int a, int b) {
            int first = a;
            int second = b;
            for (int night = 0; night <= LAST_MEETING; night++) {
                if (first == second) {
                    return night;
                }
                first = passes[first];
                second = passes[second];
            }
            return NONE;
        }

        int prizeOf(int own, int other) {
            int all = worthIn(has, own);
            return own == other ? all / 2 - 3 * watch[own] : all - 2 * watch[own];
        }

        /** The k-th couple at rest, or how many there are (k NONE). */
        int restAt(int k) {
            int found = 0;
            for (int a = 0; a < houses; a++) {
                for (int b = 0; b < houses; b++) {
                    if (isBest(a, b) && isBest(b, a)) {
                        if (found == k) {
                            return HOUSES * a + b;
                        }
                        found++;
                    }
                }
            }
            return k == NONE ? found : NONE;
        }

        private boolean isBest(int own, int other) {
            for (int h = 0; h < houses; h++) {
                if (prizeOf(h, other) > prizeOf(own, other)) {
                    return false;
                }
            }
            return true;
        }
    }

    /** A saint's law as told. */
    private static final class Law {
        int rate = 2;
        int caughtAt = 20;
        int doubles = 0;

        void clear() {
            rate = 2;
            caughtAt = 20;
            doubles = 0;
        }

        void copy(Law other) {
            rate = other.rate;
            caughtAt = other.caughtAt;
            doubles = other.doubles;
        }

        /** What a gift counts in a night. */
        int counts(int night) {
            return night >= 0 && night < DOUBLE_NIGHTS ? 1 + (doubles >> night & 1) : 1;
        }

        int dueOf(int taken) {
            return rate > 0 ? taken / rate : 0;
        }

        int oddOf(int taken) {
            return rate > 0 ? taken % rate : 0;
        }

        int firstQuit(int owes, int gifts, int from) {
            int given = 0;
            for (int night = from; night <= LAST_NIGHT; night++) {
                given += gifts * counts(night);
                if (given >= owes) {
                    return night;
                }
            }
            return NONE;
        }

        /** Gifts of double nights first: each of them stands for two. */
        int fewestGifts(int owes, int gifts, int from, int to) {
            if (to < from) {
                return NONE;
            }
            int twice = 0;
            int once = 0;
            for (int night = from; night <= to; night++) {
                if (counts(night) == 2) {
                    twice += gifts;
                } else {
                    once += gifts;
                }
            }
            int dear = Math.min(twice, (owes + 1) / 2);
            int cheap = Math.max(0, owes - 2 * dear);
            return cheap <= once ? dear + cheap : NONE;
        }
    }

    /** A row of deeds as told. */
    private static final class Nights {
        int size = 0;
        final int[] kind = new int[DEEDS];
        final int[] first = new int[DEEDS];
        final int[] second = new int[DEEDS];
        final int[] third = new int[DEEDS];

        void clear() {
            size = 0;
        }

        void add(int sort, int a, int b, int c) {
            if (size < DEEDS) {
                kind[size] = sort;
                first[size] = a;
                second[size] = b;
                third[size] = c;
                size++;
            }
        }

        void copy(Nights other) {
            size = other.size;
            copyRow(other.kind, kind);
            copyRow(other.first, first);
            copyRow(other.second, second);
            copyRow(other.third, third);
        }
    }

    /** What was seen, as told. */
    private static final class Sight {
        int size = 0;
        final int[] house = new int[GIFTS];
        final int[] good = new int[GIFTS];
        final int[] left = new int[HOUSE_GOODS];

        Sight() {
            clear();
        }

        void clear() {
            size = 0;
            fillRow(left, NONE);
        }

        void add(int h, int g) {
            if (size < GIFTS) {
                house[size] = h;
                good[size] = g;
                size++;
            }
        }

        void copy(Sight other) {
            size = other.size;
            copyRow(other.house, house);
            copyRow(other.good, good);
            copyRow(other.left, left);
        }

        /** In how many ways each gift can have a hand: gifts that nobody knows apart go together. */
        int ways(Walk walk) {
            int all = 1;
            for (int i = 0; i < size; i++) {
                if (alike(i, 0, i) == 0) {
                    all *= waysOf(walk, cell(house[i], good[i]), 0, alike(i, i, size));
                }
            }
            return all;
        }

        /** How many gifts of a range are of one house and good with a gift. */
        private int alike(int gift, int from, int to) {
            int all = 0;
            for (int i = from; i < to; i++) {
                if (house[i] == house[gift] && good[i] == good[gift]) {
                    all++;
                }
            }
            return all;
        }

        /** Ways of gifts of one house and good, told by their cell, among the thieves from one on. */
        private static int waysOf(Walk walk, int at, int thief, int open) {
            if (thief >= THIEVES) {
                return open == 0 ? 1 : 0;
            }
            int most = Math.min(open, walk.gave[HOUSE_GOODS * thief + at]);
            int all = 0;
            for (int n = 0; n <= most; n++) {
                all += choices(open, n) * waysOf(walk, at, thief + 1, open - n);
            }
            return all;
        }

        private static int choices(int of, int n) {
            int all = 1;
            for (int i = 1; i <= n; i++) {
                all = all * (of - n + i) / i;
            }
            return all;
        }

        /** If there is a way at all, each one who gave such a gift may have given this one. */
        int mayBe(Walk walk, int gift) {
            if (ways(walk) == 0) {
                return 0;
            }
            int bits = 0;
            for (int t = 0; t < THIEVES; t++) {
                bits |= walk.gave[cell(t, house[gift], good[gift])] > 0 ? 1 << t : 0;
            }
            return bits;
        }

        int movedFrom(Town town, boolean unseen) {
            int all = 0;
            for (int g = 0; g < GOODS; g++) {
                if (isTold(town, g)) {
                    int n = movedOf(town, g, unseen);
                    if (n == NONE) {
                        return NONE;
                    }
                    all += n;
                }
            }
            return all;
        }

        private boolean isTold(Town town, int of) {
            for (int h = 0; h < town.houses; h++) {
                if (left[cell(h, of)] == NONE) {
                    return false;
                }
            }
            return true;
        }

        /** What is too much behind each house has gone on to the next one, or has come back. */
        private int movedOf(Town town, int of, boolean unseen) {
            int steps = 0;
            int gone = 0;
            int passing = 0;
            for (int h = 0; h < town.houses; h++) {
                int less = town.has[cell(h, of)] - left[cell(h, of)];
                gone += Math.max(0, less);
                passing += less;
                steps += Math.abs(passing);
            }
            if (passing != 0) {
                return NONE;
            }
            return unseen ? gone : steps;
        }
    }

    /**
     * Reads a text of a sort into a draft of it, so that a text with a fault changes nothing
     * that is told.
     */
    private static final class Reader {
        private static final int END = 0;
        private static final int WORD = 1;
        private static final int NUMBER = 2;
        private static final int SEMICOLON = 3;
        private static final int NO_TOKEN = 4;

        private static final int HOUSES_LINE = 0;
        private static final int HAS_LINE = 1;
        private static final int NEEDS_LINE = 2;
        private static final int WATCH_LINE = 3;
        private static final int PASSES_LINE = 4;
        private static final int WEIGHT_LINE = 5;
        private static final int WORTH_LINE = 6;
        private static final int SON_LINE = 7;
        private static final int THIEF_LINE = 8;
        private static final int RATE_LINE = 9;
        private static final int CATCH_LINE = 10;
        private static final int DOUBLE_LINE = 11;
        private static final int TAKE_LINE = 12;
        private static final int GIVE_LINE = 13;
        private static final int SET_LINE = 14;
        private static final int NIGHT_LINE = 15;
        private static final int GIVEN_LINE = 16;
        private static final int LEFT_LINE = 17;

        private static final int MOST_NUMBERS = 3;
        /** The first line of each sort; a sort's lines end where the next one's begin. */
        private static final int[] FIRST_LINE = {0, 9, 12, 16, 18};
        private static final int[] NUMBERS = {1, 3, 3, 2, 2, 2, 2, 2, 1, 1, 1, 1, 3, 3, 3, 0, 2, 3};
        private static final int[] LEAST = {
            1, 0, 0, 0, 0, 0, 0, 0, 0, 0, 0, 0, 0, 0, 0, 0, 1, 0, 0, 0, 0, 0, 0, 0, 1, 0, 0,
            2, 0, 0, 1, 0, 0, 0, 0, 0,
            0, 0, 0, 0, 0, 0, 0, 0, 1, 0, 0, 0,
            0, 0, 0, 0, 0, 0};
        private static final int[] MOST = {
            6, 0, 0, 5, 4, 9, 5, 4, 9, 5, 9, 0, 5, 5, 0, 4, 9, 0, 4, 9, 0, 3, 3, 0, 9, 0, 0,
            5, 0, 0, 99, 0, 0, 19, 0, 0,
            3, 5, 4, 3, 5, 4, 3, 3, 9, 0, 0, 0,
            5, 4, 0, 5, 4, 18};

        int fault = 0;
        int place = NONE;
        final Town town = new Town();
        final Law law = new Law();
        final Nights nights = new Nights();
        final Sight sight = new Sight();

        private byte[] tape = null;
        private int length = 0;
        private int next = 0;
        private int token = END;
        private int start = 0;
        private int value = 0;
        private final int[] numbers = new int[MOST_NUMBERS];
        private boolean broken = false;
        private int topHouse = NONE;
        private int topThief = NONE;

        void read(byte[] bytes, int size, int sort) {
            begin(bytes, Math.min(size, bytes.length));
            step();
            for (int line = 0; line <= length && token != END && !broken; line++) {
                readLine(sort);
            }
            if (fault == 0 && (topHouse >= town.houses || topThief >= town.thieves)) {
                note(4, length);
            }
            // An image or a later call must not see the tape by way of the reader.
            tape = null;
        }

        private void begin(byte[] bytes, int size) {
            tape = bytes;
            length = size;
            next = 0;
            fault = 0;
            place = NONE;
            broken = false;
            topHouse = NONE;
            topThief = NONE;
            town.clear();
            law.clear();
            nights.clear();
            sight.clear();
        }

        /** The first of the faults 2 and 3 counts: they are found by their places. */
        private void note(int number, int where) {
            if (fault == 0) {
                fault = number;
                place = where;
            }
        }

        /** Fault 1 comes ahead of all others, wherever they are. */
        private void breakOff() {
            broken = true;
            fault = 1;
            place = start;
        }

        private void readLine(int sort) {
            int line = token == WORD ? lineOf(sort) : NONE;
            if (line == NONE) {
                breakOff();
                return;
            }
            if (isFull(line)) {
                note(3, start);
            }
            step();
            for (int i = 0; i < NUMBERS[line]; i++) {
                if (token != NUMBER) {
                    breakOff();
                    return;
                }
                readNumber(line, i);
                step();
            }
            if (token != SEMICOLON) {
                breakOff();
                return;
            }
            step();
            // A fault refuses the whole text, so what comes behind it need not be kept.
            if (fault == 0) {
                keepLine(line);
            }
        }

        private void readNumber(int line, int i) {
            int at = MOST_NUMBERS * line + i;
            boolean isSame = (line == SON_LINE || line == SET_LINE) && i == 1 && value == numbers[0];
            if (value < LEAST[at] || value > MOST[at] || isSame) {
                note(2, start);
            }
            numbers[i] = value;
        }

        private boolean isFull(int line) {
            if (line == THIEF_LINE) {
                return town.thieves >= THIEVES;
            }
            if (line >= TAKE_LINE && line <= NIGHT_LINE) {
                return nights.size >= DEEDS;
            }
            return line == GIVEN_LINE && sight.size >= GIFTS;
        }

        private int lineOf(int sort) {
            if (sort < 0 || sort >= SORTS) {
                return NONE;
            }
            for (int line = FIRST_LINE[sort]; line < FIRST_LINE[sort + 1]; line++) {
                if (isWord(wordOf(line))) {
                    return line;
                }
            }
            return NONE;
        }

        private static String wordOf(int line) {
            switch (line) {
                case HOUSES_LINE: return "houses";
                case HAS_LINE: return "has";
                case NEEDS_LINE: return "needs";
                case WATCH_LINE: return "watch";
                case PASSES_LINE: return "passes";
                case WEIGHT_LINE: return "weight";
                case WORTH_LINE: return "worth";
                case SON_LINE: return "son";
                case THIEF_LINE: return "thief";
                case RATE_LINE: return "rate";
                case CATCH_LINE: return "catch";
                case DOUBLE_LINE: return "double";
                case TAKE_LINE: return "take";
                case GIVE_LINE: return "give";
                case SET_LINE: return "set";
                case NIGHT_LINE: return "night";
                case GIVEN_LINE: return "given";
                case LEFT_LINE: return "left";
                default: return "";
            }
        }

        private boolean isWord(String word) {
            if (next - start != word.length()) {
                return false;
            }
            for (int i = 0; i < word.length(); i++) {
                if (byteAt(start + i) != word.charAt(i)) {
                    return false;
                }
            }
            return true;
        }

        private void keepLine(int line) {
            if (line < RATE_LINE) {
                keepTown(line);
            } else if (line < TAKE_LINE) {
                keepLaw(line);
            } else if (line == NIGHT_LINE) {
                nights.add(NIGHT, NONE, NONE, NONE);
            } else if (line < NIGHT_LINE) {
                nights.add(TAKE + line - TAKE_LINE, numbers[0], numbers[1], numbers[2]);
            } else if (line == GIVEN_LINE) {
                sight.add(numbers[0], numbers[1]);
            } else {
                sight.left[cell(numbers[0], numbers[1])] = numbers[2];
            }
        }

        private void keepTown(int line) {
            int a = numbers[0];
            int b = numbers[1];
            switch (line) {
                case HOUSES_LINE:
                    town.houses = a;
                    break;
                case HAS_LINE:
                    town.has[cell(a, b)] = numbers[2];
                    break;
                case NEEDS_LINE:
                    town.needs[cell(a, b)] = numbers[2];
                    break;
                case WATCH_LINE:
                    town.watch[a] = b;
                    break;
                case PASSES_LINE:
                    town.passes[a] = b;
                    topHouse = Math.max(topHouse, b);
                    break;
                case WEIGHT_LINE:
                    town.weight[a] = b;
                    break;
                case WORTH_LINE:
                    town.worth[a] = b;
                    break;
                case SON_LINE:
                    town.father[a] = b;
                    topThief = Math.max(topThief, Math.max(a, b));
                    break;
                default:
                    town.addThief(a);
                    break;
            }
            if (line >= HAS_LINE && line <= PASSES_LINE) {
                topHouse = Math.max(topHouse, a);
            }
        }

        private void keepLaw(int line) {
            if (line == RATE_LINE) {
                law.rate = numbers[0];
            } else if (line == CATCH_LINE) {
                law.caughtAt = numbers[0];
            } else {
                law.doubles |= 1 << numbers[0];
            }
        }

        /** The next token, as long as it goes. */
        private void step() {
            while (next < length && isBlank(byteAt(next))) {
                next++;
            }
            start = next;
            int first = byteAt(next);
            if (next >= length) {
                token = END;
            } else if (isLetter(first)) {
                token = WORD;
                while (next < length && isLetter(byteAt(next))) {
                    next++;
                }
            } else if (isDigit(first)) {
                stepNumber();
            } else if (first == ';') {
                token = SEMICOLON;
                next++;
            } else {
                token = NO_TOKEN;
            }
        }

        private void stepNumber() {
            value = 0;
            while (next < length && isDigit(byteAt(next))) {
                // The bound keeps a long row of digits, which is no token, from running over.
                value = Math.min(999, 10 * value + byteAt(next) - '0');
                next++;
            }
            token = next - start <= 2 ? NUMBER : NO_TOKEN;
        }

        private int byteAt(int at) {
            return tape != null && at >= 0 && at < length && at < tape.length ? tape[at] : 0;
        }

        private static boolean isBlank(int b) {
            return b == 10 || b == 32;
        }

        private static boolean isLetter(int b) {
            return b >= 'a' && b <= 'z';
        }

        private static boolean isDigit(int b) {
            return b >= '0' && b <= '9';
        }
    }

    /** A town while nights go on in it under a law. */
    private static final class Walk {
        Town town;
        Law law;
        final int[] has = new int[HOUSE_GOODS];
        final int[] bag = new int[THIEVES * GOODS];
        final int[] took = new int[THIEVES * HOUSE_GOODS];
        final int[] gave = new int[THIEVES * HOUSE_GOODS];
        final int[] taken = new int[THIEVES];
        final int[] given = new int[THIEVES];
        final int[] trace = new int[THIEVES];
        final int[] takenTonight = new int[THIEVES];
        final int[] seenTonight = new int[THIEVES];
        final int[] lastTake = new int[THIEVES];
        int takes = 0;
        int caught = 0;
        int night = 0;
        int done = 0;
        private int seed = 0;

        Walk(Town any, Law anyLaw) {
            town = any;
            law = anyLaw;
        }

        void begin(Town where, Law under) {
            town = where;
            law = under;
            copyRow(where.has, has);
            fillRow(bag, 0);
            fillRow(took, 0);
            fillRow(gave, 0);
            fillRow(taken, 0);
            fillRow(given, 0);
            fillRow(trace, 0);
            fillRow(takenTonight, 0);
            fillRow(seenTonight, 0);
            fillRow(lastTake, NONE);
            takes = 0;
            caught = 0;
            night = 0;
            done = 0;
        }

        /** Does up to n deeds, and no more from the first one on that can't be. */
        void follow(Nights nights, int n) {
            int most = Math.min(n, nights.size);
            while (done < most && act(nights, done)) {
                done++;
            }
        }

        private boolean act(Nights nights, int k) {
            int a = nights.first[k];
            int b = nights.second[k];
            int c = nights.third[k];
            switch (nights.kind[k]) {
                case TAKE:
                    return takeOne(a, b, c);
                case GIVE:
                    return giveOne(a, b, c);
                case SET:
                    return setOff(a, b, c);
                default:
                    nightEnds();
                    return true;
            }
        }

        boolean isFree(int thief) {
            return town.isThief(thief) && (caught >> thief & 1) == 0;
        }

        int owesOf(int thief) {
            return law.dueOf(taken[thief]) - given[thief];
        }

        int lackOf(int house, int good) {
            return Math.max(0, town.needs[cell(house, good)] - has[cell(house, good)]);
        }

        /** Whether a house lacks a good and may have it of a thief, if he has it. */
        boolean takesGift(int thief, int house, int good) {
            int at = cell(house, good);
            return town.needs[at] > has[at] && took[cell(thief, house, good)] == 0;
        }

        /** False, and nothing is done, if it can't be; so are giveOne and setOff. */
        boolean takeOne(int thief, int house, int good) {
            if (!isFree(thief) || !town.isHouse(house) || !isGood(good)) {
                return false;
            }
            if (has[cell(house, good)] < 1 || takenTonight[thief] >= town.limit[thief]) {
                return false;
            }
            has[cell(house, good)]--;
            bag[GOODS * thief + good]++;
            took[cell(thief, house, good)]++;
            taken[thief]++;
            takenTonight[thief]++;
            lastTake[thief] = takes;
            takes++;
            return true;
        }

        boolean giveOne(int thief, int house, int good) {
            if (!isFree(thief) || !town.isHouse(house) || !isGood(good)) {
                return false;
            }
            if (bag[GOODS * thief + good] < 1 || !takesGift(thief, house, good)) {
                return false;
            }
            bag[GOODS * thief + good]--;
            has[cell(house, good)]++;
            gave[cell(thief, house, good)]++;
            given[thief] += law.counts(night);
            seenTonight[thief] += town.watch[house];
            return true;
        }

        boolean setOff(int a, int b, int n) {
            if (!isFree(a) || !isFree(b) || a == b || town.areKin(a, b)) {
                return false;
            }
            if (n < 1 || owesOf(a) < n || -owesOf(b) < n) {
                return false;
            }
            given[a] += n;
            given[b] -= n;
            return true;
        }

        void nightEnds() {
            for (int t = 0; t < town.thieves; t++) {
                trace[t] += seenTonight[t];
                if (trace[t] >= law.caughtAt) {
                    caught |= 1 << t;
                }
                seenTonight[t] = 0;
                takenTonight[t] = 0;
            }
            night++;
        }

        void drawNights(int from, int nights) {
            seed = from;
            for (int n = 0; n < nights; n++) {
                for (int t = 0; t < town.thieves; t++) {
                    if (isFree(t)) {
                        drawDeeds(t);
                    }
                }
                nightEnds();
            }
        }

        private void drawDeeds(int thief) {
            for (int i = 0; i < town.limit[thief]; i++) {
                int house = drawBelow(town.houses);
                int good = drawBelow(GOODS);
                takeOne(thief, house, good);
            }
            int gifts = 0;
            while (gifts < MOST_THINGS && owesOf(thief) > 0 && giveLeast(thief)) {
                gifts++;
            }
        }

        private int drawBelow(int n) {
            seed = seed * 1103515245 + 12345;
            return n > 0 ? (seed >>> 16) % n : 0;
        }

        private boolean giveLeast(int thief) {
            for (int g = 0; g < GOODS; g++) {
                for (int h = 0; h < town.houses; h++) {
                    if (giveOne(thief, h, g)) {
                        return true;
                    }
                }
            }
            return false;
        }
    }

    /** What a walk answers where it stands. */
    private static final class Views {
        /** As state() has it, but for the night and the queue. */
        static int seen(Walk walk, int what) {
            switch (what) {
                case 1:
                    return want(walk);
                case 2:
                    return walk.caught;
                case 3:
                    return pious(walk);
                default:
                    return what >= 20 && what < 70 ? seenOf(walk, what / 10, what % 10) : NO_STATE;
            }
        }

        private static int seenOf(Walk walk, int row, int at) {
            if (row == 6) {
                return walk.town.isHouse(at) ? lost(walk, at) : NO_STATE;
            }
            if (!walk.town.isThief(at)) {
                return NO_STATE;
            }
            switch (row) {
                case 2:
                    return walk.taken[at];
                case 3:
                    return walk.given[at];
                case 4:
                    return walk.owesOf(at);
                default:
                    return walk.trace[at];
            }
        }

        private static int want(Walk walk) {
            int all = 0;
            for (int h = 0; h < walk.town.houses; h++) {
                for (int g = 0; g < GOODS; g++) {
                    all += walk.lackOf(h, g);
                }
            }
            return all;
        }

        private static int pious(Walk walk) {
            int best = NONE;
            for (int t = 0; t < walk.town.thieves; t++) {
                if (best == NONE || walk.owesOf(t) < walk.owesOf(best)) {
                    best = t;
                }
            }
            return best;
        }

        private static int lost(Walk walk, int house) {
            int all = 0;
            for (int t = 0; t < walk.town.thieves; t++) {
                all += tookFrom(walk, t, house);
            }
            return all;
        }

        private static int tookFrom(Walk walk, int thief, int house) {
            int all = 0;
            for (int g = 0; g < GOODS; g++) {
                all += walk.took[cell(thief, house, g)];
            }
            return all;
        }

        static int queued(Walk walk, int k) {
            for (int t = 0; t < walk.town.thieves; t++) {
                if (isOdd(walk, t) && placeInQueue(walk, t) == k) {
                    return t;
                }
            }
            return NONE;
        }

        private static boolean isOdd(Walk walk, int thief) {
            return walk.law.oddOf(walk.taken[thief]) > 0;
        }

        private static int placeInQueue(Walk walk, int thief) {
            int ahead = 0;
            for (int t = 0; t < walk.town.thieves; t++) {
                if (isOdd(walk, t) && walk.lastTake[t] < walk.lastTake[thief]) {
                    ahead++;
                }
            }
            return ahead;
        }

        /** As wealth() has it. */
        static int rich(Walk walk, int what) {
            switch (what) {
                case 0:
                    return settle(walk);
                case 1:
                    return gap(walk);
                case 2:
                    return unlike(walk, false);
                case 3:
                    return unlike(walk, true);
                case 4:
                    return robbed(walk);
                default:
                    return what >= 10 && what < 40 ? richOf(walk, what / 10, what % 10) : NO_STATE;
            }
        }

        private static int richOf(Walk walk, int row, int at) {
            if (row == 1) {
                return walk.town.isThief(at) ? can(walk, at) : NO_STATE;
            }
            if (!walk.town.isHouse(at)) {
                return NO_STATE;
            }
            return row == 2 ? wealthOf(walk, at) : ranked(walk, at);
        }

        /**
         * What goes from those who owe to those who are ahead is a flow: the most of it is the
         * least cut, over all sets of those who owe.
         */
        private static int settle(Walk walk) {
            int best = cut(walk, 0);
            for (int debtors = 1; debtors < 1 << walk.town.thieves; debtors++) {
                best = Math.min(best, cut(walk, debtors));
            }
            return best;
        }

        private static int cut(Walk walk, int debtors) {
            int all = 0;
            for (int t = 0; t < walk.town.thieves; t++) {
                int owes = walk.owesOf(t);
                if (!walk.isFree(t)) {
                    continue;
                }
                if (owes > 0 && (debtors >> t & 1) == 0) {
                    all += owes;
                } else if (owes < 0 && isReached(walk, debtors, t)) {
                    all -= owes;
                }
            }
            return all;
        }

        private static boolean isReached(Walk walk, int debtors, int thief) {
            for (int t = 0; t < walk.town.thieves; t++) {
                boolean owes = (debtors >> t & 1) == 1 && walk.isFree(t) && walk.owesOf(t) > 0;
                if (owes && !walk.town.areKin(t, thief)) {
                    return true;
                }
            }
            return false;
        }

        private static int can(Walk walk, int thief) {
            if (!walk.isFree(thief)) {
                return 0;
            }
            int all = 0;
            for (int g = 0; g < GOODS; g++) {
                int places = 0;
                for (int h = 0; h < walk.town.houses; h++) {
                    if (walk.takesGift(thief, h, g)) {
                        places += walk.lackOf(h, g);
                    }
                }
                all += Math.min(places, walk.bag[GOODS * thief + g]);
            }
            return all;
        }

        private static int wealthOf(Walk walk, int house) {
            return walk.town.isHouse(house) ? walk.town.worthIn(walk.has, house) : 0;
        }

        private static int gap(Walk walk) {
            int most = wealthOf(walk, 0);
            int least = most;
            for (int h = 1; h < walk.town.houses; h++) {
                most = Math.max(most, wealthOf(walk, h));
                least = Math.min(least, wealthOf(walk, h));
            }
            return most - least;
        }

        private static int ranked(Walk walk, int k) {
            for (int h = 0; h < walk.town.houses; h++) {
                if (rankOf(walk, h) == k) {
                    return h;
                }
            }
            return NONE;
        }

        private static int rankOf(Walk walk, int house) {
            int own = wealthOf(walk, house);
            int ahead = 0;
            for (int h = 0; h < walk.town.houses; h++) {
                int other = wealthOf(walk, h);
                if (other > own || (other == own && h < house)) {
                    ahead++;
                }
            }
            return ahead;
        }

        private static int unlike(Walk walk, boolean under) {
            int all = 0;
            int differences = 0;
            for (int a = 0; a < walk.town.houses; a++) {
                int own = wealthOf(walk, a);
                all += own;
                for (int b = a + 1; b < walk.town.houses; b++) {
                    differences += Math.abs(own - wealthOf(walk, b));
                }
            }
            return leastTerms(differences, walk.town.houses * all, under);
        }

        private static int robbed(Walk walk) {
            int bits = 0;
            for (int h = 0; h < walk.town.houses; h++) {
                int takers = 0;
                for (int t = 0; t < walk.town.thieves; t++) {
                    takers += tookFrom(walk, t, h) > 0 ? 1 : 0;
                }
                bits |= takers >= 2 ? 1 << h : 0;
            }
            return bits;
        }
    }

    /** What those who lack may have of those who can spare, of a town as told. */
    private static final class Supply {
        /** No house sends more than all others can lack. */
        private static final int MOST_FLOW = 9 * HOUSES;
        private static final int FAR = 1000000;

        private int[] costs = new int[2 * MOST_FLOW + 1];
        private int[] nextCosts = new int[2 * MOST_FLOW + 1];

        static boolean isAsked(Town town, int what) {
            return what >= 0 && what <= 2 || what >= 10 && what < 10 + GOODS * town.houses;
        }

        static boolean isEnough(Town town) {
            for (int g = 0; g < GOODS; g++) {
                if (town.spareOfAll(g) < town.lackOfAll(g)) {
                    return false;
                }
            }
            return true;
        }

        static int answer(Town town, int what) {
            if (what >= 10) {
                return takenFrom(town, (what - 10) / GOODS, (what - 10) % GOODS);
            }
            int things = 0;
            int cost = 0;
            for (int h = 0; h < town.houses; h++) {
                for (int g = 0; g < GOODS; g++) {
                    int n = takenFrom(town, h, g);
                    things += n;
                    cost += n * town.watch[h];
                }
            }
            if (what == 0) {
                return cost;
            }
            return what == 1 ? things : nightsFor(things, town.limitOfAll());
        }

        /** What is lacked comes from the least watched houses, of these from the lesser ones first. */
        private static int takenFrom(Town town, int house, int good) {
            int lack = town.lackOfAll(good);
            for (int h = 0; h < town.houses; h++) {
                boolean isAhead = town.watch[h] < town.watch[house]
                    || (town.watch[h] == town.watch[house] && h < house);
                if (isAhead) {
                    lack -= town.spareOf(h, good);
                }
            }
            return Math.max(0, Math.min(lack, town.spareOf(house, good)));
        }

        private static int nightsFor(int things, int limit) {
            if (things == 0) {
                return 0;
            }
            return limit > 0 ? (things + limit - 1) / limit : NONE;
        }

        int carryAll(Town town) {
            if (!isEnough(town)) {
                return NONE;
            }
            int all = 0;
            for (int g = 0; g < GOODS; g++) {
                all += town.weight[g] * carryGood(town, g);
            }
            return all;
        }

        /**
         * House by house, the least steps for each number of things that go on to the next house
         * (below 0: that come back from it).
         */
        private int carryGood(Town town, int good) {
            int most = Math.min(MOST_FLOW, town.lackOfAll(good));
            if (most == 0) {
                return 0;
            }
            fillRow(costs, FAR);
            fillRow(nextCosts, FAR);
            costs[MOST_FLOW] = 0;
            for (int h = 0; h < town.houses; h++) {
                for (int flow = -most; flow <= most; flow++) {
                    int before = flow + town.lackOf(h, good);
                    int least = leastOf(before - town.spareOf(h, good), before);
                    nextCosts[MOST_FLOW + flow] = Math.min(FAR, least + Math.abs(flow));
                }
                int[] old = costs;
                costs = nextCosts;
                nextCosts = old;
            }
            return costs[MOST_FLOW];
        }

        private int leastOf(int from, int to) {
            int least = FAR;
            for (int flow = Math.max(from, -MOST_FLOW); flow <= to && flow <= MOST_FLOW; flow++) {
                least = Math.min(least, costs[MOST_FLOW + flow]);
            }
            return least;
        }
    }

    /** Chooses what to haul; its rows are used again and again. */
    private static final class Porter {
        final int[] best = new int[GOODS];
        int bestWorth = 0;
        private final int[] picked = new int[GOODS];
        private Town town;
        private int house = 0;

        Porter(Town any) {
            town = any;
        }

        void choose(Town where, int from, int things, int weight) {
            town = where;
            house = from;
            bestWorth = NONE;
            fillRow(best, 0);
            fillRow(picked, 0);
            pick(this, 0, things, weight, 0);
        }

        /** Most of the lesser goods are tried first, so of like hauls the first one found stands. */
        private static void pick(Porter p, int good, int things, int weight, int worth) {
            if (good >= GOODS) {
                p.keepBetter(worth);
                return;
            }
            int most = Math.min(things, p.town.has[cell(p.house, good)]);
            for (int n = most; n >= 0; n--) {
                int left = weight - n * p.town.weight[good];
                if (left >= 0) {
                    p.picked[good] = n;
                    pick(p, good + 1, things - n, left, worth + n * p.town.worth[good]);
                }
            }
        }

        private void keepBetter(int worth) {
            if (worth > bestWorth) {
                bestWorth = worth;
                copyRow(picked, best);
            }
        }
    }
}
