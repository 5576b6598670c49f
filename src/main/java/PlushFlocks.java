import java.util.Arrays;

/** Flocks of plush that graze the carpets of a house; ../shared/DOC.md says what each call answers. */
public final class PlushFlocks {
    public static final int BAD = -1, STATE = -2, FULL = -3, NONE = -9;
    public static final int NO = -1000000;

    private static final int MOST = 5;
    private static final int LETTERS_MOST = 120;
    private static final int LETTER_LAST = 255;
    private static final int CARPET_MOST = 60;
    private static final int CARPET_A_DAWN = 5;
    private static final int LAMBS_MOST = 99;
    private static final int LAMB_AT_FIRST = 20;
    private static final int NIGHT_LAST = 999;
    private static final int BARE_STEPS = 60;
    private static final int PAST_MOST = 10;
    private static final int IMAGES = 2;
    private static final int TOLD_MOST = 6;
    private static final int ATE_MOST = 45;
    private static final int TENTHS = 10;
    private static final int FAULT_BASE = -10;
    private static final int WAY_BITS = 15;
    private static final int WAY_MASK = (1 << WAY_BITS) - 1;
    private static final int NO_WAY = (MOST + 1) << WAY_BITS;

    private final char[] text = new char[LETTERS_MOST];
    private int letters = 0;
    private Plan plan = new Plan();
    private final Evening evening = new Evening();
    private final Evening trial = new Evening();
    private final Past past = new Past();
    private final Evening[] images = new Evening[IMAGES];
    private int imagesKept = 0;
    private final Grazing grazing = new Grazing();
    private final WayBack wayBack = new WayBack();
    private long traced = 0;

    public PlushFlocks() {
        for (int i = 0; i < images.length; i++) {
            images[i] = new Evening();
        }
    }

    // ---- the house

    public int type(int letter) {
        if (letter < 0 || letter > LETTER_LAST) {
            return BAD;
        }
        if (letters < 0 || letters >= text.length) {
            return FULL;
        }
        text[letters] = (char) letter;
        letters++;
        return letters;
    }

    public int clear() {
        int had = letters;
        letters = 0;
        return had;
    }

    public int house() {
        Reader reader = new Reader(text, letters);
        int fault = reader.readAll();
        if (fault >= 0) {
            return FAULT_BASE - fault;
        }
        letters = 0;
        plan = reader.plan;
        evening.begin(plan);
        past.lose();
        imagesKept = 0;
        grazing.lose();
        return reader.items;
    }

    public int room(int r, int what) {
        if (!plan.hasRoom(r)) {
            return BAD;
        }
        switch (what) {
            case 0: return lane(plan.holds, r);
            case 1: return lane(evening.carpets, r);
            case 2: return lane(plan.doors, r);
            case 3: return plan.flocksIn(evening.places, r);
            case 4: return evening.dogs >> r & 1;
            case 5: return stepsTillBare(r);
            default: return BAD;
        }
    }

    public int flock(int f, int what) {
        if (!plan.hasFlock(f)) {
            return BAD;
        }
        switch (what) {
            case 0: return spot(plan.homes, f);
            case 1: return lane(plan.hungers, f);
            case 2: return lane(plan.stuffs, f);
            case 3: return spot(evening.places, f);
            case 4: return lane(evening.eaten, f);
            case 5: return lane(evening.lambs, f);
            default: return BAD;
        }
    }

    public int now(int what) {
        switch (what) {
            case 0: return evening.night;
            case 1: return plan.strays(evening.places);
            case 2: return evening.dogs;
            case 3: return sum(evening.carpets);
            case 4: return sum(evening.lambs);
            case 5: return past.known;
            default: return BAD;
        }
    }

    private int stepsTillBare(int r) {
        trial.become(evening);
        for (int steps = 0; steps <= BARE_STEPS; steps++) {
            if (lane(trial.carpets, r) == 0) {
                return steps;
            }
            trial.pass(plan);
        }
        return NONE;
    }

    // ---- what is done

    public int step() {
        past.remember(evening);
        return evening.pass(plan);
    }

    public int drives(int f, int r) {
        if (!plan.hasFlock(f) || !plan.hasRoom(r)) {
            return BAD;
        }
        int left = spot(evening.places, f);
        int reached = lane(plan.doors, left) & plan.openRooms(evening.places, evening.dogs);
        if (!has(reached, r)) {
            return STATE;
        }
        past.remember(evening);
        evening.places = withSpot(evening.places, f, r);
        return left;
    }

    public int puts(int r) {
        if (!plan.hasRoom(r)) {
            return BAD;
        }
        if (has(evening.dogs, r)) {
            return STATE;
        }
        past.remember(evening);
        evening.dogs |= 1 << r;
        return Integer.bitCount(evening.dogs);
    }

    public int calls(int r) {
        if (!plan.hasRoom(r)) {
            return BAD;
        }
        if (!has(evening.dogs, r)) {
            return STATE;
        }
        past.remember(evening);
        evening.dogs &= ~(1 << r);
        return Integer.bitCount(evening.dogs);
    }

    public int dawn() {
        if (evening.night >= NIGHT_LAST) {
            return STATE;
        }
        past.remember(evening);
        evening.brighten(plan);
        return evening.night;
    }

    public int undo() {
        return past.giveBack(evening) ? past.known : STATE;
    }

    // ---- home

    public int back(int what) {
        if (what != 0 && what != 1) {
            return BAD;
        }
        wayBack.search(plan, evening);
        return what == 0 ? wayBack.fewest : wayBack.first;
    }

    public int homing() {
        int best = NONE;
        int fewest = MOST + 1;
        for (int dogs = 0; dogs < 1 << plan.rooms; dogs++) {
            int many = Integer.bitCount(dogs);
            if (many < fewest && sendsHome(dogs)) {
                best = dogs;
                fewest = many;
            }
        }
        return best;
    }

    public int apart(int f) {
        if (f != -1 && !plan.hasFlock(f)) {
            return BAD;
        }
        int price = cheapest(plan, 0, 0, NO_WAY);
        if (price == NO_WAY) {
            return NONE;
        }
        return f == -1 ? price >> WAY_BITS : spot(price, f);
    }

    public int odds(int x, int k, int what) {
        if (x < 0 || x > TENTHS || k < 0 || k > MOST || what < 0 || what > 1) {
            return BAD;
        }
        int lower = power(TENTHS, plan.flocks);
        int upper = 0;
        for (int stray = 0; stray < 1 << plan.flocks; stray++) {
            int many = Integer.bitCount(stray);
            if (many <= k) {
                upper += power(x, many) * power(TENTHS - x, plan.flocks - many);
            }
        }
        int common = commonDivisor(upper, lower);
        if (common <= 0) {
            return BAD;
        }
        return (what == 0 ? upper : lower) / common;
    }

    private boolean sendsHome(int dogs) {
        trial.become(evening);
        trial.dogs = dogs;
        trial.pass(plan);
        return trial.places == plan.homes;
    }

    /**
     * The least price of the ways that begin with this one (flocks before f are put), or best.
     * A price is the rooms of a way above the way itself: flock 0 stands highest in a way,
     * so that of two ways with as many rooms the first has the lesser price.
     */
    private static int cheapest(Plan plan, int f, int way, int best) {
        int rooms = plan.roomsTaken(way, f);
        if (rooms >= best >> WAY_BITS) {
            return best;
        }
        if (f >= plan.flocks) {
            return rooms << WAY_BITS | way;
        }
        int least = best;
        for (int r = 0; r < plan.rooms; r++) {
            if (plan.mayJoin(way, f, r)) {
                least = cheapest(plan, f + 1, withSpot(way, f, r), least);
            }
        }
        return least;
    }

    // ---- who grazed

    public int tells(int set, int n) {
        if (set < 1 || set >= 1 << plan.flocks || n < 0 || n > ATE_MOST) {
            return BAD;
        }
        return grazing.hear(set, n) ? grazing.told : FULL;
    }

    public int forget() {
        int had = grazing.told;
        grazing.lose();
        return had;
    }

    public int can(int what) {
        if (what < 0 || what > 2) {
            return BAD;
        }
        grazing.weigh(plan);
        if (what == 0) {
            return grazing.ways;
        }
        if (what == 2) {
            return grazing.inSome;
        }
        return grazing.ways == 0 ? NONE : grazing.inAll;
    }

    public int ask() {
        grazing.weigh(plan);
        return grazing.ways <= 1 ? NONE : grazing.bestAsked(plan.flocks);
    }

    // ---- kinds, images

    public int rate(int kind, int f) {
        if (!plan.hasFlock(f)) {
            return NO;
        }
        switch (kind) {
            case 0: return pile(f);
            case 1: return cord(f);
            case 2: return nap(f);
            case 3: return damask(f);
            case 4: return velvet(f);
            case 5: return fringe(f);
            default: return NO;
        }
    }

    public int keep(int image) {
        Evening kept = slot(images, image);
        if (kept == null) {
            return BAD;
        }
        kept.become(evening);
        imagesKept |= 1 << image;
        return evening.night;
    }

    public int again(int image) {
        Evening kept = slot(images, image);
        if (kept == null) {
            return BAD;
        }
        if (!has(imagesKept, image)) {
            return STATE;
        }
        evening.become(kept);
        past.lose();
        return evening.night;
    }

    public int count(int what) {
        switch (what) {
            case 0: return plan.rooms;
            case 1: return plan.flocks;
            case 2: return plan.lambAt;
            case 3: return grazing.told;
            case 4: return letters;
            default: return BAD;
        }
    }

    public long trace() {
        return traced;
    }

    private int pile(int f) {
        traced += 1;
        return lane(plan.hungers, f);
    }

    private int cord(int f) {
        traced += 10;
        return pile(f) + lane(evening.carpets, spot(evening.places, f));
    }

    private int nap(int f) {
        traced += 100;
        return pile(f) - lane(evening.lambs, f);
    }

    private int damask(int f) {
        traced += 1000;
        return 2 * cord(f);
    }

    private int velvet(int f) {
        traced += 10000;
        return nap(f) + f;
    }

    private int fringe(int f) {
        traced += 100000;
        return pile(f) + evening.night;
    }

    // ---- small numbers packed: a shift can't fall out of its row as an index can,
    // ---- and what is kept or tried is copied without an array

    /** The i-th number (0 .. 255) of a row of eight. */
    private static int lane(long row, int i) {
        return (int) (row >>> 8 * i) & 255;
    }

    private static long withLane(long row, int i, int value) {
        int shift = 8 * i;
        return row & ~(255L << shift) | (long) (value & 255) << shift;
    }

    private static int sum(long row) {
        int all = 0;
        for (int i = 0; i < MOST; i++) {
            all += lane(row, i);
        }
        return all;
    }

    /** The room of a flock in a way: where each flock is, flock 0 in the highest bits. */
    private static int spot(int way, int f) {
        return way >> 3 * (MOST - 1 - f) & 7;
    }

    private static int withSpot(int way, int f, int r) {
        int shift = 3 * (MOST - 1 - f);
        return way & ~(7 << shift) | (r & 7) << shift;
    }

    private static boolean has(int set, int i) {
        return (set >> i & 1) == 1;
    }

    private static int lowest(int set) {
        for (int i = 0; i < MOST; i++) {
            if (has(set, i)) {
                return i;
            }
        }
        return NONE;
    }

    private static Evening slot(Evening[] row, int i) {
        return i < 0 || i >= row.length ? null : row[i];
    }

    private static int power(int base, int exponent) {
        int product = 1;
        for (int i = 0; i < exponent; i++) {
            product *= base;
        }
        return product;
    }

    private static int commonDivisor(int one, int other) {
        int a = one;
        int b = other;
        for (int turn = 0; turn < 100 && b != 0; turn++) {
            int rest = a % b;
            a = b;
            b = rest;
        }
        return a;
    }

    /** What the text told: nothing of it changes by night. */
    private static final class Plan {
        int rooms = 0;
        int flocks = 0;
        int lambAt = LAMB_AT_FIRST;
        boolean lambAtTold = false;
        long holds = 0;
        long carpets = 0;
        long doors = 0;
        int homes = 0;
        long hungers = 0;
        long stuffs = 0;

        boolean hasRoom(int r) {
            return r >= 0 && r < rooms;
        }

        boolean hasFlock(int f) {
            return f >= 0 && f < flocks;
        }

        void addRoom(int held, int carpet) {
            holds = withLane(holds, rooms, held);
            carpets = withLane(carpets, rooms, carpet);
            rooms++;
        }

        void addDoor(int a, int b) {
            doors = withLane(doors, a, lane(doors, a) | 1 << b);
            doors = withLane(doors, b, lane(doors, b) | 1 << a);
        }

        void addFlock(int home, int hunger, int stuff) {
            homes = withSpot(homes, flocks, home);
            hungers = withLane(hungers, flocks, hunger);
            stuffs = withLane(stuffs, flocks, stuff);
            flocks++;
        }

        void tellLambAt(int full) {
            lambAt = full;
            lambAtTold = true;
        }

        int flocksIn(int places, int r) {
            int set = 0;
            for (int f = 0; f < flocks; f++) {
                if (spot(places, f) == r) {
                    set |= 1 << f;
                }
            }
            return set;
        }

        int strays(int places) {
            int set = 0;
            for (int f = 0; f < flocks; f++) {
                if (spot(places, f) != spot(homes, f)) {
                    set |= 1 << f;
                }
            }
            return set;
        }

        /** The rooms into which one flock more may come. */
        int openRooms(int places, int dogs) {
            long loads = 0;
            for (int f = 0; f < flocks; f++) {
                loads += 1L << 8 * spot(places, f);
            }
            int open = 0;
            for (int r = 0; r < rooms; r++) {
                if (!has(dogs, r) && lane(loads, r) < lane(holds, r)) {
                    open |= 1 << r;
                }
            }
            return open;
        }

        /** How many rooms the flocks before f take. */
        int roomsTaken(int way, int f) {
            int taken = 0;
            for (int g = 0; g < f; g++) {
                taken |= 1 << spot(way, g);
            }
            return Integer.bitCount(taken);
        }

        /** Whether f may stand in a room with those of the flocks before it that are there. */
        boolean mayJoin(int way, int f, int r) {
            int load = 0;
            for (int g = 0; g < f; g++) {
                if (spot(way, g) == r) {
                    if (lane(stuffs, g) != lane(stuffs, f)) {
                        return false;
                    }
                    load++;
                }
            }
            return load < lane(holds, r);
        }
    }

    /** All that changes by night, and all that an image keeps. */
    private static final class Evening {
        int places = 0;
        long carpets = 0;
        long eaten = 0;
        long lambs = 0;
        int dogs = 0;
        int night = 0;

        void become(Evening other) {
            places = other.places;
            carpets = other.carpets;
            eaten = other.eaten;
            lambs = other.lambs;
            dogs = other.dogs;
            night = other.night;
        }

        void begin(Plan plan) {
            places = plan.homes;
            carpets = plan.carpets;
            eaten = 0;
            lambs = 0;
            dogs = 0;
            night = 0;
        }

        /** A step of all flocks: how much they eat. */
        int pass(Plan plan) {
            int all = 0;
            for (int f = 0; f < plan.flocks; f++) {
                all += act(plan, f);
            }
            return all;
        }

        private int act(Plan plan, int f) {
            int here = spot(places, f);
            boolean flees = has(dogs, here);
            if (!flees && lane(carpets, here) > 0) {
                return graze(plan, f, here);
            }
            int beyond = lane(plan.doors, here) & plan.openRooms(places, dogs);
            if (!flees) {
                beyond &= carpeted();
            }
            if (beyond != 0) {
                places = withSpot(places, f, lowest(beyond));
            }
            return 0;
        }

        private int graze(Plan plan, int f, int here) {
            int carpet = lane(carpets, here);
            int bite = Math.min(lane(plan.hungers, f), carpet);
            int inside = lane(eaten, f) + bite;
            int born = plan.lambAt < 1 ? 0 : inside / plan.lambAt;
            carpets = withLane(carpets, here, carpet - bite);
            eaten = withLane(eaten, f, inside - born * plan.lambAt);
            lambs = withLane(lambs, f, Math.min(LAMBS_MOST, lane(lambs, f) + born));
            return bite;
        }

        private int carpeted() {
            int set = 0;
            for (int r = 0; r < MOST; r++) {
                if (lane(carpets, r) > 0) {
                    set |= 1 << r;
                }
            }
            return set;
        }

        void brighten(Plan plan) {
            for (int r = 0; r < plan.rooms; r++) {
                int grown = lane(carpets, r) + CARPET_A_DAWN;
                carpets = withLane(carpets, r, Math.min(CARPET_MOST, grown));
            }
            night++;
            dogs = 0;
        }
    }

    /** The evenings as they were before the latest changes, in a ring: the oldest is written over. */
    private static final class Past {
        private final Evening[] ring = new Evening[PAST_MOST];
        private int next = 0;
        int known = 0;

        Past() {
            for (int i = 0; i < ring.length; i++) {
                ring[i] = new Evening();
            }
        }

        void remember(Evening evening) {
            Evening free = slot(ring, next);
            if (free == null) {
                return;
            }
            free.become(evening);
            next = (next + 1) % PAST_MOST;
            known = Math.min(PAST_MOST, known + 1);
        }

        boolean giveBack(Evening evening) {
            int latest = (next + PAST_MOST - 1) % PAST_MOST;
            Evening before = slot(ring, latest);
            if (known < 1 || before == null) {
                return false;
            }
            evening.become(before);
            next = latest;
            known--;
            return true;
        }

        void lose() {
            known = 0;
        }
    }

    /** Reads a text token by token into a plan of its own, so that a fault leaves the old one. */
    private static final class Reader {
        private final char[] text;
        private final int length;
        private char item = ' ';
        private int numbers = 0;
        private int one = 0;
        private int two = 0;
        private int three = 0;
        int items = 0;
        final Plan plan = new Plan();

        Reader(char[] text, int letters) {
            this.text = text;
            this.length = Math.min(letters, text.length);
        }

        /** The place of the fault, below 0 if there is none. */
        int readAll() {
            for (int at = 0; at < length; at++) {
                if (isTokenStart(at) && !takes(at)) {
                    return at;
                }
            }
            return item == ' ' ? -1 : length;
        }

        private char letterAt(int at) {
            return at < 0 || at >= length || at >= text.length ? ' ' : text[at];
        }

        private boolean isDigit(int at) {
            char letter = letterAt(at);
            return letter >= '0' && letter <= '9';
        }

        private boolean isTokenStart(int at) {
            return letterAt(at) != ' ' && !(isDigit(at) && isDigit(at - 1));
        }

        private boolean takes(int at) {
            if (isDigit(at)) {
                return takesNumber(numberAt(at));
            }
            return letterAt(at) == ';' ? takesEnd() : takesLetter(letterAt(at));
        }

        /** Below 0: it is above 99, or a 0 stands ahead of others. */
        private int numberAt(int at) {
            int digit = letterAt(at) - '0';
            if (!isDigit(at + 1)) {
                return digit;
            }
            if (digit == 0 || isDigit(at + 2)) {
                return -1;
            }
            return 10 * digit + letterAt(at + 1) - '0';
        }

        private boolean takesLetter(char letter) {
            if (item != ' ') {
                return false;
            }
            item = letter;
            numbers = 0;
            switch (letter) {
                case 'r': return plan.rooms < MOST;
                case 'd': return true;
                case 'f': return plan.flocks < MOST;
                case 'n': return !plan.lambAtTold;
                default: return false;
            }
        }

        private boolean takesNumber(int number) {
            if (number < 0 || !mayBe(number)) {
                return false;
            }
            if (numbers == 0) {
                one = number;
            } else if (numbers == 1) {
                two = number;
            } else {
                three = number;
            }
            numbers++;
            return true;
        }

        private boolean mayBe(int number) {
            switch (item) {
                case 'r': return mayTellRoom(number);
                case 'd': return numbers < 2 && plan.hasRoom(number) && !(numbers == 1 && number == one);
                case 'f': return mayTellFlock(number);
                case 'n': return numbers == 0 && number >= 1;
                default: return false;
            }
        }

        private boolean mayTellRoom(int number) {
            switch (numbers) {
                case 0: return number >= 1 && number <= MOST;
                case 1: return number <= CARPET_MOST;
                default: return false;
            }
        }

        private boolean mayTellFlock(int number) {
            switch (numbers) {
                case 0: return plan.hasRoom(number);
                case 1: return number >= 1 && number <= 9;
                case 2: return number <= 2;
                default: return false;
            }
        }

        private boolean takesEnd() {
            if (item == ' ' || numbers != numbersOf(item)) {
                return false;
            }
            switch (item) {
                case 'r': plan.addRoom(one, two); break;
                case 'd': plan.addDoor(one, two); break;
                case 'f': plan.addFlock(one, two, three); break;
                default: plan.tellLambAt(one); break;
            }
            items++;
            item = ' ';
            return true;
        }

        private static int numbersOf(char item) {
            switch (item) {
                case 'n': return 1;
                case 'f': return 3;
                default: return 2;
            }
        }
    }

    /** Drives searched breadth first; the rows are made once, for a search comes often. */
    private static final class WayBack {
        private static final int WAYS = 3125;
        private static final int WORDS = 1 << WAY_BITS - 6;
        private static final int UNDRIVEN = 63;

        private final int[] queue = new int[WAYS];
        private final long[] seen = new long[WORDS];
        private int end = 0;
        int fewest = NONE;
        int first = NONE;

        void search(Plan plan, Evening evening) {
            fewest = NONE;
            first = NONE;
            if (evening.places == plan.homes) {
                fewest = 0;
                return;
            }
            Arrays.fill(seen, 0L);
            end = 0;
            reach(evening.places, UNDRIVEN);
            int head = 0;
            for (int driven = 1; driven <= WAYS && head < end && first == NONE; driven++) {
                int layerEnd = end;
                for (; head < layerEnd && first == NONE; head++) {
                    spread(plan, evening.dogs, head);
                }
                fewest = first == NONE ? NONE : driven;
            }
        }

        /**
         * Flocks and rooms go upward here: then the ways of a layer stand by their first drive,
         * and the first that comes home has the lowest.
         */
        private void spread(Plan plan, int dogs, int head) {
            if (head < 0 || head >= queue.length) {
                return;
            }
            int way = queue[head] & WAY_MASK;
            int drive = queue[head] >> WAY_BITS;
            int open = plan.openRooms(way, dogs);
            for (int f = 0; f < plan.flocks; f++) {
                int beyond = lane(plan.doors, spot(way, f)) & open;
                for (int r = 0; r < plan.rooms && beyond >> r != 0; r++) {
                    if (has(beyond, r)) {
                        int firstDrive = drive == UNDRIVEN ? 10 * f + r : drive;
                        arrive(withSpot(way, f, r), firstDrive, plan.homes);
                    }
                }
            }
        }

        private void arrive(int way, int drive, int homes) {
            if (reach(way, drive) && way == homes && first == NONE) {
                first = drive;
            }
        }

        /** Whether the way is new. */
        private boolean reach(int way, int drive) {
            int word = way >> 6;
            if (word < 0 || word >= seen.length || end < 0 || end >= queue.length) {
                return false;
            }
            if ((seen[word] >> (way & 63) & 1L) == 1L) {
                return false;
            }
            seen[word] |= 1L << (way & 63);
            queue[end] = drive << WAY_BITS | way;
            end++;
            return true;
        }
    }

    /** What was told of who grazed, and the sets of flocks that it leaves. */
    private static final class Grazing {
        private long sets = 0;
        private long sums = 0;
        private long waysWith = 0;
        int told = 0;
        int ways = 0;
        int inAll = 0;
        int inSome = 0;

        boolean hear(int set, int sum) {
            if (told >= TOLD_MOST) {
                return false;
            }
            sets = withLane(sets, told, set);
            sums = withLane(sums, told, sum);
            told++;
            return true;
        }

        void lose() {
            told = 0;
        }

        void weigh(Plan plan) {
            ways = 0;
            waysWith = 0;
            inAll = (1 << plan.flocks) - 1;
            inSome = 0;
            for (int grazed = 0; grazed < 1 << plan.flocks; grazed++) {
                if (agrees(plan, grazed)) {
                    add(plan, grazed);
                }
            }
        }

        private boolean agrees(Plan plan, int grazed) {
            for (int i = 0; i < told; i++) {
                if (eatenBy(plan, grazed & lane(sets, i)) != lane(sums, i)) {
                    return false;
                }
            }
            return true;
        }

        private static int eatenBy(Plan plan, int set) {
            int all = 0;
            for (int f = 0; f < plan.flocks; f++) {
                if (has(set, f)) {
                    all += lane(plan.hungers, f);
                }
            }
            return all;
        }

        private void add(Plan plan, int grazed) {
            ways++;
            inAll &= grazed;
            inSome |= grazed;
            for (int f = 0; f < plan.flocks; f++) {
                if (has(grazed, f)) {
                    waysWith += 1L << 8 * f;
                }
            }
        }

        /** The flock whose answer leaves the fewest ways at worst. */
        int bestAsked(int flocks) {
            int best = NONE;
            int least = ways + 1;
            for (int f = 0; f < flocks; f++) {
                int with = lane(waysWith, f);
                int left = Math.max(with, ways - with);
                if (left < least) {
                    best = f;
                    least = left;
                }
            }
            return best;
        }
    }
}
