import java.util.Arrays;

/** An island's office. ../shared/DOC.md says what each call answers; README.md says how to use it. */
public final class IslandOffice {

    private static final int NO_SUCH = -1;
    private static final int NO_ROOM = -2;
    private static final int NONE = -2;
    private static final int NOT_NOW = -3;
    private static final int NO_LAW_TEXT = -100;
    private static final int NOTHING_HELD = -11;
    private static final int OTHER_KIND = -12;
    private static final int NO_PLACE = -13;
    private static final int SIZE_BELOW_0 = -14;
    private static final int NO_FAILURE = -15;
    private static final int NO_WORTH = -1001;
    private static final int WORTH_BEYOND = -1002;

    private static final int LAST_WEEK = 400;
    private static final int YEAR = 52;
    private static final int MONTH = 4;
    private static final int FIRST_BIRTH = -5000;
    private static final int TRY_WEEKS = 30;
    private static final int PLAN_WEEKS = 16;
    private static final int PLAN_TENS = 10;
    /** Later than every week there is. */
    private static final int NEVER = 1000000;

    private static final int PEOPLE_MAX = 40;
    private static final int HOUSES = 12;
    private static final int SKILLS = 8;
    private static final int LAWS_MAX = 12;
    private static final int SUBJECTS = 4;
    private static final int POSTS_MAX = 8;
    private static final int POST_SORTS = 4;
    private static final int POST_HANDS = 3;
    private static final int GOODS = 4;
    private static final int ORDERS_MAX = 30;
    private static final int SHELVES = 8;
    private static final int ROW_MAX = 120;
    private static final int ROW_SORTS = 3;
    private static final int RECORD_SIZE = 5;
    private static final int LEAST_BYTE = -128;
    private static final int LEAST_SHORT = -32768;
    private static final int LEAST_INT = -2147483648;

    private static final int HERE = 0;
    private static final int AWAY = 1;
    private static final int GONE = 2;

    private static final int PERSON = 0;
    private static final int CHILD = 1;
    private static final int HAND = 2;
    private static final int SENDER = 3;
    private static final int OLD = 4;
    private static final int GUEST = 5;

    private static final int VOTES = 0;
    private static final int HOLDS_POSTS = 1;
    private static final int EATS_FIRST = 2;
    private static final int LEAVES = 3;

    private static final int SCHOOL = 1;
    private static final int NURSE = 2;
    private static final int BOAT = 3;

    private static final int FOOD = 0;
    private static final int FUEL = 1;
    private static final int HAY = 2;

    private static final int STORE_MAX = 9999;
    private static final int PURSE_MAX = 1000000;
    private static final int TANK_MAX = 200;
    private static final int GRASS_MAX = 500;
    private static final int DISCONTENT_MAX = 99;

    private static final int ROOM = 0;
    private static final int CALM = 1;
    private static final int YIELD = 2;
    private static final int LIMIT = 3;
    private static final int SETTINGS = 4;
    private static final int[] SETTING_FIRST = {60, 50, 10, 12};
    private static final int[] SETTING_LEAST = {0, 0, 0, 1};
    private static final int[] SETTING_MOST = {500, 9999, 99, 99};

    /** The wages, then the pensions, then the fund: 0, 1, 2 as digits of base 3, the first the lowest. */
    private static final int FIRST_ORDER_OF_PAY = 21;
    private static final int WAGES = 0;
    private static final int PENSIONS = 1;

    /** What a law's text is turned into: a number itself, a field f as -1 - f, and these. */
    private static final int FIELDS = 7;
    private static final int ADD = -8;
    private static final int LESS_BY = -9;
    private static final int BELOW = -10;
    private static final int ABOVE = -11;
    private static final int LIKE = -12;
    private static final int AND = -13;
    private static final int OR = -14;
    private static final int NOT = -15;
    private static final int BRACKET = -16;
    private static final int BRACKETS_MAX = 8;
    private static final int DIGITS_MAX = 4;
    private static final int IS_LAW = -2;

    private final Island now;
    private final Island image;
    /** The island on which weeks go by in mind. */
    private final Island mind;
    private boolean imageTaken;
    /** Not in the image: rows before the image's week are never written again while it stands. */
    private final int[] records;
    private final Shelf[] shelves;
    private final Reader reader;
    private final Judge judge;
    private final Crews crews;
    private final Almanac almanac;

    public IslandOffice() {
        int[][] codes = new int[LAWS_MAX][ROW_MAX];
        now = new Island(codes);
        image = new Island(codes);
        mind = new Island(codes);
        imageTaken = false;
        records = new int[LAST_WEEK * RECORD_SIZE];
        shelves = new Shelf[SHELVES];
        for (int d = 0; d < SHELVES; d++) {
            shelves[d] = new Shelf();
        }
        reader = new Reader();
        judge = new Judge();
        crews = new Crews();
        almanac = new Almanac(judge, crews);
    }

    // ---- people, houses

    public int person(int birth, int house, int mother, int skills) {
        if (!mayBeBorn(birth) || !isHouse(house) || !areSkills(skills)) {
            return NO_SUCH;
        }
        if (mother != -1 && !now.people.has(mother)) {
            return NO_SUCH;
        }
        return now.people.add(birth, house, mother, skills, -1);
    }

    public int guest(int birth, int house, int skills, int end) {
        if (!mayBeBorn(birth) || !isHouse(house) || !areSkills(skills)) {
            return NO_SUCH;
        }
        if (end < now.week || end > LAST_WEEK) {
            return NO_SUCH;
        }
        return now.people.add(birth, house, -1, skills, end);
    }

    public int birth(int mother) {
        if (!now.people.has(mother)) {
            return NO_SUCH;
        }
        if (now.people.n >= PEOPLE_MAX) {
            return NO_ROOM;
        }
        int kind = now.people.kind(mother, now.week);
        if (kind != PERSON && kind != HAND) {
            return NOT_NOW;
        }
        return now.people.add(now.week, now.people.house[mother], mother, 0, -1);
    }

    public int death(int person) {
        if (!now.people.has(person)) {
            return NO_SUCH;
        }
        if (now.people.state[person] == GONE) {
            return NOT_NOW;
        }
        now.people.state[person] = GONE;
        return now.people.age(person, now.week);
    }

    public int back(int person) {
        if (!now.people.has(person)) {
            return NO_SUCH;
        }
        if (now.people.state[person] != AWAY) {
            return NOT_NOW;
        }
        now.people.state[person] = HERE;
        now.people.discontent[person] = 0;
        return now.people.age(person, now.week);
    }

    public int skill(int person, int skill, boolean is) {
        if (!now.people.has(person) || skill < 0 || skill >= SKILLS) {
            return NO_SUCH;
        }
        if (now.people.state[person] == GONE) {
            return NOT_NOW;
        }
        int before = now.people.skills[person];
        int bit = 1 << skill;
        int after = is ? before | bit : before & ~bit;
        now.people.skills[person] = after;
        return before == after ? 0 : 1;
    }

    public int move(int person, int house) {
        if (!now.people.has(person) || !isHouse(house)) {
            return NO_SUCH;
        }
        if (now.people.state[person] != HERE) {
            return NOT_NOW;
        }
        int before = now.people.house[person];
        now.people.house[person] = house;
        return before;
    }

    public int house(int house, int cattle, int roof) {
        if (!isHouse(house) || cattle < 0 || cattle > 20 || roof < 1 || roof > 9) {
            return NO_SUCH;
        }
        boolean other = now.cattle[house] != cattle || now.roof[house] != roof;
        now.cattle[house] = cattle;
        now.roof[house] = roof;
        return other ? 1 : 0;
    }

    public int about(int person, int what) {
        People people = now.people;
        if (!people.has(person)) {
            return NO_SUCH;
        }
        switch (what) {
            case 0: return people.kind(person, now.week);
            case 1: return people.age(person, now.week);
            case 2: return people.house[person];
            case 3: return people.mother[person] < 0 ? NONE : people.mother[person];
            case 4: return people.skills[person];
            case 5: return people.state[person];
            case 6: return people.discontent[person];
            case 7: return people.post[person] < 0 ? NONE : people.post[person];
            case 8: return people.need(person, now.week);
            case 9: return people.wage(person, now.week);
            case 10: return people.hungry[person];
            default: return NO_SUCH;
        }
    }

    public int home(int house, int what) {
        if (!isHouse(house)) {
            return NO_SUCH;
        }
        switch (what) {
            case 0: return now.people.headsOf(house);
            case 1: return now.cattle[house];
            case 2: return now.tank[house];
            case 3: return now.roof[house];
            case 4: return now.dry[house];
            default: return NO_SUCH;
        }
    }

    // ---- laws

    public int fault(int d) {
        if (!isShelf(d)) {
            return NO_SUCH;
        }
        Shelf shelf = shelves[d];
        if (shelf.holds == Shelf.NOTHING) {
            return NOTHING_HELD;
        }
        if (!shelf.holdsText()) {
            return OTHER_KIND;
        }
        return reader.read(shelf.cell, shelf.size);
    }

    public int vote(int d, int n) {
        int voters = judge.countVoters(now);
        if (!isShelf(d) || n < 0 || n > voters) {
            return NO_SUCH;
        }
        int fault = fault(d);
        if (fault == NOTHING_HELD || fault == OTHER_KIND) {
            return fault;
        }
        if (fault != IS_LAW) {
            return NO_LAW_TEXT - fault;
        }
        if (now.laws.n >= LAWS_MAX) {
            return NO_ROOM;
        }
        if (2 * n <= voters) {
            return NOT_NOW;
        }
        return now.laws.add(reader, shelves[d].size, now.week, n, voters);
    }

    public int repeal(int law) {
        if (!now.laws.has(law)) {
            return NO_SUCH;
        }
        if (now.laws.isVoid[law] == 1 || now.laws.repealed[law] >= 0) {
            return NOT_NOW;
        }
        now.laws.repealed[law] = now.week + 1;
        return 1;
    }

    public int found(int law, int n) {
        if (!now.laws.has(law) || n < 0 || n > now.laws.voters[law]) {
            return NO_SUCH;
        }
        if (now.laws.isVoid[law] == 1) {
            return NOT_NOW;
        }
        now.laws.votes[law] = n;
        return 2 * n > now.laws.voters[law] ? 0 : now.laws.takeBack(law);
    }

    public int force(int subject, int week) {
        if (!isSubject(subject) || !isWeek(week)) {
            return NO_SUCH;
        }
        int law = now.laws.inForce(subject, week);
        return law < 0 ? NONE : law;
    }

    public int may(int person, int subject) {
        if (!now.people.has(person) || !isSubject(subject)) {
            return NO_SUCH;
        }
        if (now.people.state[person] != HERE) {
            return NOT_NOW;
        }
        return judge.allows(now, subject, person) ? 1 : 0;
    }

    public int law(int law, int what) {
        Laws laws = now.laws;
        if (!laws.has(law)) {
            return NO_SUCH;
        }
        switch (what) {
            case 0: return laws.subject[law];
            case 1: return laws.begin[law];
            case 2: return laws.votes[law];
            case 3: return laws.voters[law];
            case 4: return laws.isVoid[law];
            case 5: return laws.repealed[law] < 0 ? NONE : laws.repealed[law];
            default: return NO_SUCH;
        }
    }

    // ---- posts, stores

    public int post(int skill, int hands, int sort) {
        if (skill < 0 || skill >= SKILLS || hands < 1 || hands > POST_HANDS || sort < 0 || sort >= POST_SORTS) {
            return NO_SUCH;
        }
        return now.posts.add(skill, hands, sort);
    }

    public int open(int post, boolean is) {
        if (!now.posts.has(post)) {
            return NO_SUCH;
        }
        int before = now.posts.open[post];
        now.posts.open[post] = is ? 1 : 0;
        return before == now.posts.open[post] ? 0 : 1;
    }

    public int hands(int post, boolean high) {
        if (!now.posts.has(post)) {
            return NO_SUCH;
        }
        crews.fill(now, judge);
        long crew = crews.crew[post];
        return high ? (int) (crew >>> 32) : (int) crew;
    }

    public int filled() {
        return crews.fill(now, judge);
    }

    public int store(int good, int n) {
        if (!isGood(good) || n < 1 || n > 1000) {
            return NO_SUCH;
        }
        if (now.stores.stock[good] + n > STORE_MAX) {
            return NO_ROOM;
        }
        now.stores.stock[good] += n;
        return now.stores.stock[good];
    }

    public int rank(int good, int what, int n) {
        if (!isGood(good) || n < 0) {
            return NO_SUCH;
        }
        if (what == 0 && n <= 9) {
            int before = now.stores.ranks[good];
            now.stores.ranks[good] = n;
            return before;
        }
        if (what == 1 && n <= 99 && good != FOOD) {
            int before = now.stores.uses[good];
            now.stores.uses[good] = n;
            return before;
        }
        return NO_SUCH;
    }

    public int order(int good, int n) {
        if (!isGood(good) || n < 1 || n > 500) {
            return NO_SUCH;
        }
        return now.stores.addOrder(good, n);
    }

    public int due(int order) {
        if (order < 0 || order >= now.stores.orders) {
            return NO_SUCH;
        }
        return now.stores.rest[order];
    }

    public int set(int what, int n) {
        if (what < 0 || what >= SETTINGS || n < SETTING_LEAST[what] || n > SETTING_MOST[what]) {
            return NO_SUCH;
        }
        int before = now.settings[what];
        now.settings[what] = n;
        return before;
    }

    public int pays(int order) {
        if (order < 0 || order >= 27 || !isPermutation(order % 3, order / 3 % 3, order / 9)) {
            return NO_SUCH;
        }
        int before = now.orderOfPay;
        now.orderOfPay = order;
        return before == order ? 0 : 1;
    }

    public int earn(int n) {
        if (n < 1 || n > 10000) {
            return NO_SUCH;
        }
        if (now.purse + n > PURSE_MAX) {
            return NO_ROOM;
        }
        now.purse += n;
        return now.purse;
    }

    public int weather(int d, boolean rain) {
        if (!isShelf(d)) {
            return NO_SUCH;
        }
        Shelf shelf = shelves[d];
        if (shelf.holds == Shelf.NOTHING) {
            return NOTHING_HELD;
        }
        if (shelf.holds != Shelf.ROW) {
            return OTHER_KIND;
        }
        Sky sky = rain ? now.rain : now.weather;
        sky.take(shelf.sort, shelf.size, shelf.cell);
        return shelf.size;
    }

    public int sky(int week, boolean rain) {
        if (!isWeek(week)) {
            return NO_SUCH;
        }
        return rain ? now.rain.at(week) : now.weather.at(week);
    }

    // ---- weeks, tries

    public int weeks(int n) {
        if (n < 1 || n > YEAR) {
            return NO_SUCH;
        }
        if (now.week + n > LAST_WEEK) {
            return NO_ROOM;
        }
        for (int i = 0; i < n; i++) {
            almanac.pass(now);
            noteRecord(now.week - 1);
        }
        return now.people.in(HERE);
    }

    public int record(int week, int what) {
        if (!isWeek(week) || what < 0 || what >= RECORD_SIZE) {
            return NO_SUCH;
        }
        if (week >= now.week || week >= LAST_WEEK) {
            return NOT_NOW;
        }
        return records[RECORD_SIZE * week + what];
    }

    public int worth(int post, int n) {
        if (!now.posts.has(post) || n < 1 || n > TRY_WEEKS) {
            return NO_WORTH;
        }
        if (now.week + n > LAST_WEEK) {
            return WORTH_BEYOND;
        }
        mind.become(now);
        int asItIs = headsInMind(n);
        mind.become(now);
        mind.posts.open[post] = 0;
        return asItIs - headsInMind(n);
    }

    public int lack(int good, int n) {
        if (!isGood(good) || n < 1 || n > TRY_WEEKS || now.week + n > LAST_WEEK) {
            return NO_SUCH;
        }
        mind.become(now);
        int week = lackInMind(1 << good, n);
        return week == NEVER ? NONE : week;
    }

    public int plan() {
        if (now.stores.orders > ORDERS_MAX - 2) {
            return NO_ROOM;
        }
        if (now.week + PLAN_WEEKS > LAST_WEEK) {
            return NOT_NOW;
        }
        int latest = -1;
        int best = 0;
        // By the sum, and of like sums by FOOD's: so the first of those that last longest is the one.
        for (int sum = 0; sum <= 2 * PLAN_TENS && latest != NEVER; sum++) {
            int most = Math.min(sum, PLAN_TENS);
            for (int food = sum - Math.min(sum, PLAN_TENS); food <= most && latest != NEVER; food++) {
                mind.become(now);
                mind.stores.addTens(FOOD, food);
                mind.stores.addTens(FUEL, sum - food);
                int week = lackInMind(1 << FOOD | 1 << FUEL, PLAN_WEEKS);
                if (week > latest) {
                    latest = week;
                    best = 100 * food + sum - food;
                }
            }
        }
        return best;
    }

    public int image() {
        image.become(now);
        imageTaken = true;
        return now.week;
    }

    public int restore() {
        if (!imageTaken) {
            return NOT_NOW;
        }
        now.become(image);
        return now.week;
    }

    public int count(int what) {
        switch (what) {
            case 0: return now.people.n;
            case 1: return now.people.in(HERE);
            case 2: return now.people.in(AWAY);
            case 3: return now.people.in(GONE);
            case 4: return now.laws.n;
            case 5: return now.posts.n;
            case 6: return now.stores.orders;
            case 7: return now.week;
            case 8: return now.purse;
            case 9: return now.fund;
            case 10: return now.unpaid;
            case 11: return now.grass;
            case 12: return judge.countVoters(now);
            case 13: return now.people.needOfAll(now.week);
            case 14: return now.landed < 0 ? NONE : now.landed;
            default: return NO_SUCH;
        }
    }

    // ---- shelves

    public int keep(int d, int what, int k) {
        if (!isShelf(d) || what < 0 || what > 2) {
            return NO_SUCH;
        }
        if (what == 0) {
            shelves[d].holds = Shelf.NOTHING;
            return 0;
        }
        if (what == 2) {
            if (!now.laws.has(k)) {
                return NO_SUCH;
            }
            shelves[d].takeLaw(now.laws, k);
            return 0;
        }
        if (!now.people.has(k)) {
            return NO_SUCH;
        }
        if (now.people.state[k] == GONE) {
            return NOT_NOW;
        }
        shelves[d].takePerson(now.people, k, now.week);
        return 0;
    }

    public int row(int d, int sort, int n) {
        if (!isShelf(d) || sort < 0 || sort >= ROW_SORTS || n > ROW_MAX) {
            return NO_SUCH;
        }
        if (n < 0) {
            return SIZE_BELOW_0;
        }
        shelves[d].takeRow(sort, n);
        return 0;
    }

    public int put(int d, int i, int v) {
        if (!isShelf(d)) {
            return NO_SUCH;
        }
        Shelf shelf = shelves[d];
        if (shelf.holds == Shelf.NOTHING) {
            return NOTHING_HELD;
        }
        if (shelf.holds != Shelf.ROW) {
            return OTHER_KIND;
        }
        if (!shelf.hasPlace(i)) {
            return NO_PLACE;
        }
        shelf.cell[i] = shelf.cut(v);
        return 0;
    }

    public long element(int d, int i) throws IllegalArgumentException, IllegalStateException {
        if (!isShelf(d)) {
            throw new IllegalArgumentException("no such shelf");
        }
        Shelf shelf = shelves[d];
        if (shelf.holds != Shelf.ROW || !shelf.hasPlace(i)) {
            throw new IllegalStateException("no row, or no such place in it");
        }
        return shelf.cell[i];
    }

    public int copy(int d, int i, int e, int j, int n) {
        if (!isShelf(d) || !isShelf(e)) {
            return NO_SUCH;
        }
        Shelf from = shelves[d];
        Shelf to = shelves[e];
        if (from.holds == Shelf.NOTHING || to.holds == Shelf.NOTHING) {
            return NOTHING_HELD;
        }
        if (from.holds != Shelf.ROW || to.holds != Shelf.ROW || from.sort != to.sort) {
            return OTHER_KIND;
        }
        if (!from.hasRun(i, n) || !to.hasRun(j, n)) {
            return NO_PLACE;
        }
        System.arraycopy(from.cell, i, to.cell, j, n);
        return n;
    }

    public int weight(int d) {
        if (!isShelf(d)) {
            return NO_SUCH;
        }
        Shelf shelf = shelves[d];
        if (shelf.holds == Shelf.NOTHING) {
            return NOTHING_HELD;
        }
        return shelf.holds == Shelf.ROW ? OTHER_KIND : shelf.heft;
    }

    public int toss(int d) {
        if (!isShelf(d)) {
            return NO_SUCH;
        }
        Shelf shelf = shelves[d];
        if (shelf.holds == Shelf.NOTHING) {
            return NOTHING_HELD;
        }
        if (shelf.holds == Shelf.ROW) {
            return OTHER_KIND;
        }
        if (shelf.holds == Shelf.LAW && now.laws.has(shelf.number) && now.laws.isVoid[shelf.number] == 1) {
            return NO_FAILURE;
        }
        return shelf.failure;
    }

    // ---- what the calls share

    private boolean mayBeBorn(int week) {
        return week >= FIRST_BIRTH && week <= now.week;
    }

    private static boolean isHouse(int house) {
        return house >= 0 && house < HOUSES;
    }

    private static boolean areSkills(int skills) {
        return skills >= 0 && skills < 1 << SKILLS;
    }

    private static boolean isWeek(int week) {
        return week >= 0 && week <= LAST_WEEK;
    }

    private static boolean isSubject(int subject) {
        return subject >= 0 && subject < SUBJECTS;
    }

    private static boolean isGood(int good) {
        return good >= 0 && good < GOODS;
    }

    private static boolean isShelf(int d) {
        return d >= 0 && d < SHELVES;
    }

    private static boolean isPermutation(int first, int second, int third) {
        return (1 << first | 1 << second | 1 << third) == 7;
    }

    private void noteRecord(int week) {
        if (week < 0 || week >= LAST_WEEK) {
            return;
        }
        int at = RECORD_SIZE * week;
        records[at] = now.people.in(HERE);
        records[at + 1] = now.people.in(AWAY);
        records[at + 2] = now.stores.stock[FOOD];
        records[at + 3] = now.purse;
        records[at + 4] = almanac.filledPosts;
    }

    private int headsInMind(int n) {
        for (int i = 0; i < n; i++) {
            almanac.pass(mind);
        }
        return mind.people.in(HERE);
    }

    /** The first of the n next weeks in which one of the goods (as bits) is lacking; NEVER, if there is none. */
    private int lackInMind(int goods, int n) {
        for (int i = 0; i < n; i++) {
            int week = mind.week;
            if ((almanac.pass(mind) & goods) != 0) {
                return week;
            }
        }
        return NEVER;
    }

    /** All that there is, but shelves, image and records. */
    static final class Island {
        int week;
        int purse;
        int fund;
        int unpaid;
        int grass;
        int orderOfPay;
        /** The week in which the ship landed last, or -1. */
        int landed;
        final int[] settings;
        final int[] cattle;
        final int[] tank;
        final int[] roof;
        final int[] dry;
        final People people;
        final Laws laws;
        final Posts posts;
        final Stores stores;
        final Sky weather;
        final Sky rain;

        Island(int[][] codes) {
            week = 0;
            purse = 0;
            fund = 0;
            unpaid = 0;
            grass = 100;
            orderOfPay = FIRST_ORDER_OF_PAY;
            landed = -1;
            settings = new int[SETTINGS];
            for (int i = 0; i < SETTINGS; i++) {
                settings[i] = SETTING_FIRST[i];
            }
            cattle = new int[HOUSES];
            tank = new int[HOUSES];
            roof = new int[HOUSES];
            dry = new int[HOUSES];
            Arrays.fill(tank, 20);
            Arrays.fill(roof, 3);
            people = new People();
            laws = new Laws(codes);
            posts = new Posts();
            stores = new Stores();
            weather = new Sky();
            rain = new Sky();
        }

        void become(Island o) {
            week = o.week;
            purse = o.purse;
            fund = o.fund;
            unpaid = o.unpaid;
            grass = o.grass;
            orderOfPay = o.orderOfPay;
            landed = o.landed;
            System.arraycopy(o.settings, 0, settings, 0, SETTINGS);
            System.arraycopy(o.cattle, 0, cattle, 0, HOUSES);
            System.arraycopy(o.tank, 0, tank, 0, HOUSES);
            System.arraycopy(o.roof, 0, roof, 0, HOUSES);
            System.arraycopy(o.dry, 0, dry, 0, HOUSES);
            people.become(o.people);
            laws.become(o.laws);
            posts.become(o.posts);
            stores.become(o.stores);
            weather.become(o.weather);
            rain.become(o.rain);
        }
    }

    /** The people as they came. */
    static final class People {
        int n;
        final int[] birth;
        final int[] house;
        final int[] mother;
        final int[] skills;
        final int[] state;
        /** A guest's end; of others -1. */
        final int[] end;
        final int[] discontent;
        /** The post held in the week that went by last, or -1. */
        final int[] post;
        final int[] hungry;

        People() {
            n = 0;
            birth = new int[PEOPLE_MAX];
            house = new int[PEOPLE_MAX];
            mother = new int[PEOPLE_MAX];
            skills = new int[PEOPLE_MAX];
            state = new int[PEOPLE_MAX];
            end = new int[PEOPLE_MAX];
            discontent = new int[PEOPLE_MAX];
            post = new int[PEOPLE_MAX];
            hungry = new int[PEOPLE_MAX];
        }

        void become(People o) {
            n = o.n;
            System.arraycopy(o.birth, 0, birth, 0, PEOPLE_MAX);
            System.arraycopy(o.house, 0, house, 0, PEOPLE_MAX);
            System.arraycopy(o.mother, 0, mother, 0, PEOPLE_MAX);
            System.arraycopy(o.skills, 0, skills, 0, PEOPLE_MAX);
            System.arraycopy(o.state, 0, state, 0, PEOPLE_MAX);
            System.arraycopy(o.end, 0, end, 0, PEOPLE_MAX);
            System.arraycopy(o.discontent, 0, discontent, 0, PEOPLE_MAX);
            System.arraycopy(o.post, 0, post, 0, PEOPLE_MAX);
            System.arraycopy(o.hungry, 0, hungry, 0, PEOPLE_MAX);
        }

        int add(int bornIn, int inHouse, int ofMother, int withSkills, int endsIn) {
            if (n >= PEOPLE_MAX) {
                return NO_ROOM;
            }
            int p = n;
            birth[p] = bornIn;
            house[p] = inHouse;
            mother[p] = ofMother;
            skills[p] = withSkills;
            state[p] = HERE;
            end[p] = endsIn;
            discontent[p] = 0;
            post[p] = -1;
            hungry[p] = 0;
            n = p + 1;
            return p;
        }

        boolean has(int p) {
            return p >= 0 && p < n;
        }

        int age(int p, int week) {
            return (week - birth[p]) / YEAR;
        }

        int kind(int p, int week) {
            if (state[p] == GONE) {
                return NONE;
            }
            if (state[p] == AWAY) {
                return SENDER;
            }
            if (end[p] >= 0) {
                return GUEST;
            }
            int years = (week - birth[p]) / YEAR;
            if (years < 16) {
                return CHILD;
            }
            if (years >= 65) {
                return OLD;
            }
            return skills[p] != 0 ? HAND : PERSON;
        }

        int need(int p, int week) {
            return needOf(kind(p, week), post[p] >= 0);
        }

        int wage(int p, int week) {
            return wageOf(kind(p, week), post[p] >= 0);
        }

        static int needOf(int kind, boolean holdsPost) {
            switch (kind) {
                case PERSON: return 3;
                case CHILD: return 2;
                case OLD: return 2;
                case HAND: return holdsPost ? 4 : 3;
                case GUEST: return holdsPost ? 5 : 4;
                default: return 0;
            }
        }

        static int wageOf(int kind, boolean holdsPost) {
            switch (kind) {
                case OLD: return 2;
                case HAND: return holdsPost ? 3 : 0;
                case GUEST: return holdsPost ? 6 : 0;
                default: return 0;
            }
        }

        /** How many are in a state. */
        int in(int wanted) {
            int many = 0;
            for (int p = 0; p < n; p++) {
                if (state[p] == wanted) {
                    many++;
                }
            }
            return many;
        }

        int headsOf(int wanted) {
            int many = 0;
            for (int p = 0; p < n; p++) {
                if (state[p] == HERE && house[p] == wanted) {
                    many++;
                }
            }
            return many;
        }

        int needOfAll(int week) {
            int all = 0;
            for (int p = 0; p < n; p++) {
                all += need(p, week);
            }
            return all;
        }

        void goAway(int p) {
            state[p] = AWAY;
            discontent[p] = 0;
        }
    }

    /** The laws as they were made. */
    static final class Laws {
        int n;
        final int[] subject;
        final int[] begin;
        final int[] votes;
        final int[] voters;
        final int[] isVoid;
        /** The week from which a law is repealed, or -1. */
        final int[] repealed;
        /** The law of v that was in force when a law was made, or -1. */
        final int[] under;
        final int[] textSize;
        final int[] codeSize;
        /** One for all islands: below the n of the image no law is made anew while it stands. */
        final int[][] code;

        Laws(int[][] codes) {
            n = 0;
            subject = new int[LAWS_MAX];
            begin = new int[LAWS_MAX];
            votes = new int[LAWS_MAX];
            voters = new int[LAWS_MAX];
            isVoid = new int[LAWS_MAX];
            repealed = new int[LAWS_MAX];
            under = new int[LAWS_MAX];
            textSize = new int[LAWS_MAX];
            codeSize = new int[LAWS_MAX];
            code = codes;
        }

        void become(Laws o) {
            n = o.n;
            System.arraycopy(o.subject, 0, subject, 0, LAWS_MAX);
            System.arraycopy(o.begin, 0, begin, 0, LAWS_MAX);
            System.arraycopy(o.votes, 0, votes, 0, LAWS_MAX);
            System.arraycopy(o.voters, 0, voters, 0, LAWS_MAX);
            System.arraycopy(o.isVoid, 0, isVoid, 0, LAWS_MAX);
            System.arraycopy(o.repealed, 0, repealed, 0, LAWS_MAX);
            System.arraycopy(o.under, 0, under, 0, LAWS_MAX);
            System.arraycopy(o.textSize, 0, textSize, 0, LAWS_MAX);
            System.arraycopy(o.codeSize, 0, codeSize, 0, LAWS_MAX);
        }

        boolean has(int law) {
            return law >= 0 && law < n;
        }

        int add(Reader text, int size, int week, int yes, int ofVoters) {
            if (n >= LAWS_MAX) {
                return NO_ROOM;
            }
            int law = n;
            subject[law] = text.subject;
            begin[law] = week + 1;
            votes[law] = yes;
            voters[law] = ofVoters;
            isVoid[law] = 0;
            repealed[law] = -1;
            under[law] = inForce(VOTES, week);
            textSize[law] = size;
            codeSize[law] = text.codeSize;
            System.arraycopy(text.code, 0, code[law], 0, ROW_MAX);
            n = law + 1;
            return law;
        }

        /** The law in force of a subject in a week, or -1. */
        int inForce(int of, int week) {
            int last = -1;
            for (int i = 0; i < n; i++) {
                boolean repealedBy = repealed[i] >= 0 && repealed[i] <= week;
                if (subject[i] == of && isVoid[i] == 0 && begin[i] <= week && !repealedBy) {
                    if (last < 0 || begin[i] >= begin[last]) {
                        last = i;
                    }
                }
            }
            return last;
        }

        /** Makes a law void and all that hung on it; how many that were. */
        int takeBack(int law) {
            isVoid[law] = 1;
            int many = 1;
            // Whatever was made under a law has a greater number, so once through is enough.
            for (int i = law + 1; i < n; i++) {
                int basis = under[i];
                if (isVoid[i] == 0 && basis >= 0 && basis < n && isVoid[basis] == 1) {
                    isVoid[i] = 1;
                    many++;
                }
            }
            return many;
        }
    }

    /** Reads a law's text letter by letter, and turns it into steps for the judge's stack. */
    static final class Reader {
        private static final int AT_SUBJECT = 0;
        private static final int AT_COLON = 1;
        private static final int AT_FACTOR = 2;
        private static final int AT_LEFT_ATOM = 3;
        private static final int IN_LEFT = 4;
        private static final int AT_RIGHT_ATOM = 5;
        private static final int IN_RIGHT = 6;
        private static final int BEHIND_BRACKET = 7;

        int subject;
        final int[] code;
        int codeSize;
        private final int[] waiting;
        private int waits;
        private int state;
        private int brackets;
        /** How many digits the number has that the last letter belongs to; 0: it is no digit. */
        private int digits;

        Reader() {
            code = new int[ROW_MAX];
            waiting = new int[ROW_MAX];
            subject = 0;
            codeSize = 0;
            waits = 0;
            state = AT_SUBJECT;
            brackets = 0;
            digits = 0;
        }

        /** The fault of a text, or IS_LAW. */
        int read(int[] text, int size) {
            subject = 0;
            codeSize = 0;
            waits = 0;
            state = AT_SUBJECT;
            brackets = 0;
            digits = 0;
            for (int i = 0; i < size && i < text.length; i++) {
                if (!takes(text[i])) {
                    return i;
                }
            }
            if (brackets > 0 || state != IN_RIGHT && state != BEHIND_BRACKET) {
                return size;
            }
            unwind(OR);
            return IS_LAW;
        }

        private boolean takes(int c) {
            switch (state) {
                case AT_SUBJECT: return takesSubject(c);
                case AT_COLON:
                    state = AT_FACTOR;
                    return c == ':';
                case AT_FACTOR: return takesNot(c) || takesBracket(c) || takesAtom(c, IN_LEFT);
                case AT_LEFT_ATOM: return takesAtom(c, IN_LEFT);
                case AT_RIGHT_ATOM: return takesAtom(c, IN_RIGHT);
                case IN_LEFT: return takesDigit(c) || takesSign(c, AT_LEFT_ATOM) || takesTest(c);
                case IN_RIGHT: return takesDigit(c) || takesSign(c, AT_RIGHT_ATOM) || takesJoint(c);
                default: return takesJoint(c);
            }
        }

        private boolean takesSubject(int c) {
            state = AT_COLON;
            switch (c) {
                case 'v': subject = VOTES; return true;
                case 'p': subject = HOLDS_POSTS; return true;
                case 'e': subject = EATS_FIRST; return true;
                case 'l': subject = LEAVES; return true;
                default: return false;
            }
        }

        private boolean takesNot(int c) {
            if (c != '!') {
                return false;
            }
            hold(NOT);
            return true;
        }

        private boolean takesBracket(int c) {
            if (c != '(' || brackets >= BRACKETS_MAX) {
                return false;
            }
            brackets++;
            hold(BRACKET);
            return true;
        }

        private boolean takesAtom(int c, int then) {
            boolean digit = c >= '0' && c <= '9';
            int step = digit ? c - '0' : fieldStep(c);
            if (!digit && step >= 0) {
                return false;
            }
            write(step);
            digits = digit ? 1 : 0;
            state = then;
            return true;
        }

        private boolean takesDigit(int c) {
            if (c < '0' || c > '9' || digits < 1 || digits >= DIGITS_MAX || codeSize < 1) {
                return false;
            }
            int value = code[codeSize - 1];
            if (value == 0) {
                return false;
            }
            code[codeSize - 1] = 10 * value + c - '0';
            digits++;
            return true;
        }

        private boolean takesSign(int c, int then) {
            if (c != '+' && c != '-') {
                return false;
            }
            unwind(ADD);
            hold(c == '+' ? ADD : LESS_BY);
            state = then;
            return true;
        }

        private boolean takesTest(int c) {
            if (c != '<' && c != '>' && c != '=') {
                return false;
            }
            unwind(LIKE);
            hold(c == '<' ? BELOW : c == '>' ? ABOVE : LIKE);
            state = AT_RIGHT_ATOM;
            return true;
        }

        private boolean takesJoint(int c) {
            if (c == ')' && brackets > 0) {
                unwind(OR);
                waits = Math.max(0, waits - 1);
                brackets--;
                state = BEHIND_BRACKET;
                return true;
            }
            if (c != '&' && c != '|') {
                return false;
            }
            int step = c == '&' ? AND : OR;
            unwind(step);
            hold(step);
            state = AT_FACTOR;
            return true;
        }

        /** The step of a field's letter; 0, if it is none. */
        private static int fieldStep(int c) {
            switch (c) {
                case 'a': return -1;
                case 'k': return -2;
                case 'h': return -3;
                case 'c': return -4;
                case 's': return -5;
                case 'w': return -6;
                case 'd': return -7;
                default: return 0;
            }
        }

        /** How tightly a step binds; a bracket holds back all. */
        private static int strength(int step) {
            switch (step) {
                case ADD: return 5;
                case LESS_BY: return 5;
                case BELOW: return 4;
                case ABOVE: return 4;
                case LIKE: return 4;
                case NOT: return 3;
                case AND: return 2;
                case OR: return 1;
                default: return 0;
            }
        }

        /** Writes the waiting steps that bind as tightly as the one told, or more. */
        private void unwind(int step) {
            int least = strength(step);
            while (waits > 0 && strength(waiting[waits - 1]) >= least) {
                waits--;
                write(waiting[waits]);
            }
        }

        private void hold(int step) {
            if (waits < waiting.length) {
                waiting[waits] = step;
                waits++;
            }
        }

        private void write(int step) {
            if (codeSize < code.length) {
                code[codeSize] = step;
                codeSize++;
            }
        }
    }

    /** Says for whom a law holds. */
    static final class Judge {
        private final int[] field;
        private final int[] stack;
        private int top;

        Judge() {
            field = new int[FIELDS];
            stack = new int[ROW_MAX];
            top = 0;
        }

        int countVoters(Island s) {
            int many = 0;
            for (int p = 0; p < s.people.n; p++) {
                if (s.people.state[p] == HERE && s.people.end[p] < 0 && allows(s, VOTES, p)) {
                    many++;
                }
            }
            return many;
        }

        /** Whether a subject's law, or what holds without one, holds for one here in the island's week. */
        boolean allows(Island s, int subject, int p) {
            int law = s.laws.inForce(subject, s.week);
            if (law < 0) {
                return allowsWithoutLaw(s, subject, p);
            }
            look(s, p);
            return runs(s.laws.code[law], s.laws.codeSize[law]);
        }

        private static boolean allowsWithoutLaw(Island s, int subject, int p) {
            if (subject == VOTES) {
                return s.people.age(p, s.week) >= 18;
            }
            return subject != EATS_FIRST;
        }

        private void look(Island s, int p) {
            int house = s.people.house[p];
            field[0] = s.people.age(p, s.week);
            field[1] = s.people.kind(p, s.week);
            field[2] = s.people.headsOf(house);
            field[3] = s.cattle[house];
            field[4] = Integer.bitCount(s.people.skills[p]);
            field[5] = s.week % YEAR;
            field[6] = s.people.discontent[p];
        }

        private boolean runs(int[] code, int size) {
            top = 0;
            for (int i = 0; i < size && i < code.length; i++) {
                int step = code[i];
                if (step >= 0) {
                    push(step);
                } else if (step >= -FIELDS) {
                    push(field[-1 - step]);
                } else if (step == NOT) {
                    push(1 - pop());
                } else {
                    int right = pop();
                    push(joined(step, pop(), right));
                }
            }
            return pop() != 0;
        }

        private static int joined(int step, int left, int right) {
            switch (step) {
                case ADD: return left + right;
                case LESS_BY: return left - right;
                case BELOW: return left < right ? 1 : 0;
                case ABOVE: return left > right ? 1 : 0;
                case LIKE: return left == right ? 1 : 0;
                case AND: return left & right;
                default: return left | right;
            }
        }

        private void push(int value) {
            if (top < stack.length) {
                stack[top] = value;
                top++;
            }
        }

        private int pop() {
            if (top < 1) {
                return 0;
            }
            top--;
            return stack[top];
        }
    }

    /** The posts as they came. */
    static final class Posts {
        int n;
        final int[] skill;
        final int[] hands;
        final int[] sort;
        final int[] open;

        Posts() {
            n = 0;
            skill = new int[POSTS_MAX];
            hands = new int[POSTS_MAX];
            sort = new int[POSTS_MAX];
            open = new int[POSTS_MAX];
        }

        void become(Posts o) {
            n = o.n;
            System.arraycopy(o.skill, 0, skill, 0, POSTS_MAX);
            System.arraycopy(o.hands, 0, hands, 0, POSTS_MAX);
            System.arraycopy(o.sort, 0, sort, 0, POSTS_MAX);
            System.arraycopy(o.open, 0, open, 0, POSTS_MAX);
        }

        int add(int ofSkill, int ofHands, int ofSort) {
            if (n >= POSTS_MAX) {
                return NO_ROOM;
            }
            int i = n;
            skill[i] = ofSkill;
            hands[i] = ofHands;
            sort[i] = ofSort;
            open[i] = 1;
            n = i + 1;
            return i;
        }

        boolean has(int i) {
            return i >= 0 && i < n;
        }

        /** The skills (as bits) of the open posts. */
        int wantedSkills() {
            int wanted = 0;
            for (int i = 0; i < n; i++) {
                if (open[i] == 1) {
                    wanted |= 1 << skill[i];
                }
            }
            return wanted;
        }
    }

    /** Fills the posts by whole crews. */
    static final class Crews {
        private static final int FEW = 9;
        private static final int SETS = 1 << FEW;

        /** Who fills each post, as bits; 0: it isn't filled. */
        final long[] crew;
        private final long[] can;
        private final int[] hands;
        /** What the crews were last found for: with the same they are the same. */
        private final long[] canBefore;
        private final int[] handsBefore;
        private int filled;
        private final int[] who;
        private final int[] few;
        /** The most that the posts from one on are good for, if a set of the few is taken already. */
        private final int[][] best;

        Crews() {
            crew = new long[POSTS_MAX];
            can = new long[POSTS_MAX];
            hands = new int[POSTS_MAX];
            canBefore = new long[POSTS_MAX];
            handsBefore = new int[POSTS_MAX];
            filled = 0;
            who = new int[FEW];
            few = new int[POSTS_MAX];
            best = new int[POSTS_MAX + 1][SETS];
        }

        /** Finds the crews as things stand; how many posts are filled. */
        int fill(Island s, Judge judge) {
            long all = ask(s, judge);
            if (asBefore()) {
                return filled;
            }
            if (Long.bitCount(all) <= FEW) {
                fillBest(all);
            } else {
                fillInTurn();
            }
            filled = 0;
            for (int i = 0; i < POSTS_MAX; i++) {
                canBefore[i] = can[i];
                handsBefore[i] = hands[i];
                if (crew[i] != 0) {
                    filled++;
                }
            }
            return filled;
        }

        /** Notes who can take each post; who can take any, as bits. */
        private long ask(Island s, Judge judge) {
            Posts posts = s.posts;
            for (int i = 0; i < POSTS_MAX; i++) {
                can[i] = 0;
                hands[i] = i < posts.n ? posts.hands[i] : 0;
            }
            int wanted = posts.wantedSkills();
            long all = 0;
            for (int p = 0; p < s.people.n; p++) {
                int skills = s.people.skills[p] & wanted;
                int kind = s.people.kind(p, s.week);
                if (skills == 0 || kind != HAND && kind != GUEST || !judge.allows(s, HOLDS_POSTS, p)) {
                    continue;
                }
                all |= 1L << p;
                for (int i = 0; i < posts.n; i++) {
                    if (posts.open[i] == 1 && (skills >> posts.skill[i] & 1) == 1) {
                        can[i] |= 1L << p;
                    }
                }
            }
            return all;
        }

        private boolean asBefore() {
            for (int i = 0; i < POSTS_MAX; i++) {
                if (can[i] != canBefore[i] || hands[i] != handsBefore[i]) {
                    return false;
                }
            }
            return true;
        }

        private void fillInTurn() {
            long taken = 0;
            for (int i = 0; i < POSTS_MAX; i++) {
                crew[i] = 0;
                long free = can[i] & ~taken;
                if (hands[i] > 0 && Long.bitCount(free) >= hands[i]) {
                    crew[i] = lowest(free, hands[i]);
                    taken |= crew[i];
                }
            }
        }

        private static long lowest(long of, int many) {
            long rest = of;
            for (int i = 0; i < many; i++) {
                rest &= rest - 1;
            }
            return of & ~rest;
        }

        private void fillBest(long all) {
            int size = nameFew(all);
            weighAll(1 << size);
            int taken = 0;
            for (int i = 0; i < POSTS_MAX; i++) {
                int set = best[i][taken] == best[i + 1][taken] ? 0 : leastSet(i, taken);
                taken |= set;
                crew[i] = peopleOf(set, size);
            }
        }

        /** Numbers the few anew from 0 on, in their order; how many they are. */
        private int nameFew(long all) {
            int size = 0;
            for (int p = 0; p < PEOPLE_MAX && size < FEW; p++) {
                if ((all >> p & 1) == 1) {
                    who[size] = p;
                    size++;
                }
            }
            for (int i = 0; i < POSTS_MAX; i++) {
                few[i] = 0;
                for (int k = 0; k < size; k++) {
                    few[i] |= (int) (can[i] >> who[k] & 1) << k;
                }
            }
            return size;
        }

        /** Each post filled counts more than any choice of which; of those post 0 more than all behind it. */
        private static int goodOf(int i) {
            return (1 << POSTS_MAX) + (1 << POSTS_MAX - 1 - i);
        }

        private void weighAll(int sets) {
            for (int taken = 0; taken < sets && taken < SETS; taken++) {
                best[POSTS_MAX][taken] = 0;
            }
            for (int i = POSTS_MAX - 1; i >= 0; i--) {
                int[] behind = best[i + 1];
                for (int taken = 0; taken < sets && taken < SETS; taken++) {
                    int free = few[i] & ~taken;
                    int most = behind[taken];
                    if (hands[i] > 0 && Integer.bitCount(free) >= hands[i]) {
                        most = Math.max(most, mostBySet(i, taken, free));
                    }
                    best[i][taken] = most;
                }
            }
        }

        private int mostBySet(int i, int taken, int free) {
            int[] behind = best[i + 1];
            int most = 0;
            // From one part of free to the next greater one; behind free itself comes 0 again.
            int set = -free & free;
            for (int k = 0; k < SETS && set != 0; k++) {
                if (Integer.bitCount(set) == hands[i]) {
                    most = Math.max(most, goodOf(i) + behind[taken | set]);
                }
                set = set - free & free;
            }
            return most;
        }

        /** The least set of hands for a post that is to be filled. */
        private int leastSet(int i, int taken) {
            int free = few[i] & ~taken;
            int set = -free & free;
            for (int k = 0; k < SETS && set != 0; k++) {
                if (Integer.bitCount(set) == hands[i] && goodOf(i) + best[i + 1][taken | set] == best[i][taken]) {
                    return set;
                }
                set = set - free & free;
            }
            return 0;
        }

        private long peopleOf(int set, int size) {
            long people = 0;
            for (int k = 0; k < size; k++) {
                if ((set >> k & 1) == 1) {
                    people |= 1L << who[k];
                }
            }
            return people;
        }
    }

    /** The goods, and the orders as they came. */
    static final class Stores {
        final int[] stock;
        final int[] ranks;
        final int[] uses;
        int orders;
        final int[] good;
        /** How much of an order is still to come. */
        final int[] rest;

        Stores() {
            stock = new int[GOODS];
            ranks = new int[GOODS];
            uses = new int[GOODS];
            for (int g = 0; g < GOODS; g++) {
                ranks[g] = g;
            }
            orders = 0;
            good = new int[ORDERS_MAX];
            rest = new int[ORDERS_MAX];
        }

        void become(Stores o) {
            System.arraycopy(o.stock, 0, stock, 0, GOODS);
            System.arraycopy(o.ranks, 0, ranks, 0, GOODS);
            System.arraycopy(o.uses, 0, uses, 0, GOODS);
            orders = o.orders;
            System.arraycopy(o.good, 0, good, 0, ORDERS_MAX);
            System.arraycopy(o.rest, 0, rest, 0, ORDERS_MAX);
        }

        int addOrder(int ofGood, int n) {
            if (orders >= ORDERS_MAX) {
                return NO_ROOM;
            }
            int order = orders;
            good[order] = ofGood;
            rest[order] = n;
            orders = order + 1;
            return order;
        }

        void addTens(int ofGood, int tens) {
            if (tens > 0) {
                addOrder(ofGood, 10 * tens);
            }
        }

        void gain(int g, int n) {
            stock[g] = Math.min(STORE_MAX, stock[g] + n);
        }

        /** The ship's load comes: by rank, of like ones as they came. */
        void load(int room) {
            int left = room;
            for (int rank = 0; rank <= 9; rank++) {
                for (int i = 0; i < orders; i++) {
                    if (ranks[good[i]] == rank) {
                        int loaded = Math.min(left, rest[i]);
                        left -= loaded;
                        rest[i] -= loaded;
                        gain(good[i], loaded);
                    }
                }
            }
        }

        /** The use of a good goes, as far as it is there; whether there was enough. */
        boolean spend(int g, int use) {
            boolean enough = stock[g] >= use;
            stock[g] = Math.max(0, stock[g] - use);
            return enough;
        }
    }

    /** Weather or rain: a row that was given. */
    static final class Sky {
        private int sort;
        private int size;
        private final int[] cell;

        Sky() {
            sort = 0;
            size = 0;
            cell = new int[ROW_MAX];
        }

        void become(Sky o) {
            take(o.sort, o.size, o.cell);
        }

        void take(int ofSort, int ofSize, int[] from) {
            sort = ofSort;
            size = Math.max(0, Math.min(ROW_MAX, ofSize));
            System.arraycopy(from, 0, cell, 0, size);
        }

        int at(int week) {
            if (week < 0 || week >= size) {
                return 0;
            }
            if (!isMissing(week)) {
                return Math.max(0, cell[week]);
            }
            return meanOfMonth(week / MONTH);
        }

        private boolean isMissing(int week) {
            int least = sort == 0 ? LEAST_BYTE : sort == 1 ? LEAST_SHORT : LEAST_INT;
            return cell[week] == least;
        }

        private int meanOfMonth(int month) {
            long sum = 0;
            int there = 0;
            for (int i = 0; i < MONTH; i++) {
                int week = MONTH * month + i;
                if (week < size && !isMissing(week)) {
                    sum += Math.max(0, cell[week]);
                    there++;
                }
            }
            return there == 0 ? 0 : (int) (sum / there);
        }
    }

    /** A shelf; of one of the people, or of a law, it keeps what will be asked, as it was then. */
    static final class Shelf {
        static final int NOTHING = 0;
        static final int ONE = 1;
        static final int LAW = 2;
        static final int ROW = 3;

        int holds;
        int heft;
        int failure;
        int number;
        int sort;
        int size;
        final int[] cell;

        Shelf() {
            holds = NOTHING;
            heft = 0;
            failure = 0;
            number = 0;
            sort = 0;
            size = 0;
            cell = new int[ROW_MAX];
        }

        void takePerson(People people, int p, int week) {
            int kind = people.kind(p, week);
            holds = ONE;
            number = p;
            heft = 10 + People.needOf(kind, false) + People.wageOf(kind, false) + kind;
            failure = kind == SENDER ? NO_FAILURE : people.house[p];
            if (kind == CHILD) {
                heft += people.age(p, week);
            }
            if (kind == GUEST) {
                heft *= 2;
                failure += 100;
            }
        }

        void takeLaw(Laws laws, int law) {
            holds = LAW;
            number = law;
            heft = 1000 + laws.subject[law] + laws.textSize[law];
            failure = laws.voters[law];
        }

        void takeRow(int ofSort, int ofSize) {
            holds = ROW;
            sort = ofSort;
            size = ofSize;
            Arrays.fill(cell, 0);
        }

        boolean holdsText() {
            return holds == ROW && sort == 0;
        }

        boolean hasPlace(int i) {
            return i >= 0 && i < size && i < cell.length;
        }

        /** Whether the row has n elements from i on. */
        boolean hasRun(int i, int n) {
            return i >= 0 && n >= 0 && i <= size && n <= size - i;
        }

        int cut(int v) {
            return sort == 0 ? (byte) v : sort == 1 ? (short) v : v;
        }
    }

    /** Lets the weeks go by. */
    static final class Almanac {
        private final Judge judge;
        private final Crews crews;
        /** Rationing: who eats first, and what each one gets. */
        private final int[] first;
        private final int[] got;
        /** Of each house in the week: nobody comes or goes between the water and the fuel. */
        private final int[] heads;
        /** Of whom a child is here. */
        private final int[] rears;
        /** Houses in which an old one is here. */
        private final int[] tends;
        /** How many posts were filled in the week that this let go by last. */
        int filledPosts;

        Almanac(Judge withJudge, Crews withCrews) {
            judge = withJudge;
            crews = withCrews;
            first = new int[PEOPLE_MAX];
            got = new int[PEOPLE_MAX];
            heads = new int[HOUSES];
            rears = new int[PEOPLE_MAX];
            tends = new int[HOUSES];
            filledPosts = 0;
        }

        /** The week goes by; which goods were lacking, as bits. */
        int pass(Island s) {
            boolean calm = s.weather.at(s.week) <= s.settings[CALM];
            sendGuestsOff(s);
            letRain(s);
            countHeads(s);
            drink(s);
            graze(s);
            filledPosts = crews.fill(s, judge);
            work(s, calm);
            boolean lands = lands(s, calm);
            if (lands) {
                s.landed = s.week;
                s.stores.load(s.settings[ROOM]);
            }
            int lacking = feed(s) | burn(s);
            fret(s, (lacking >> FUEL & 1) == 1);
            if (s.week % MONTH == MONTH - 1) {
                payMonth(s);
            }
            if (lands) {
                leave(s);
            }
            s.week++;
            return lacking;
        }

        private static void sendGuestsOff(Island s) {
            People people = s.people;
            for (int p = 0; p < people.n; p++) {
                if (people.state[p] == HERE && people.end[p] >= 0 && people.end[p] <= s.week) {
                    people.state[p] = GONE;
                }
            }
        }

        private static void letRain(Island s) {
            long rain = s.rain.at(s.week);
            for (int h = 0; h < HOUSES; h++) {
                s.tank[h] = (int) Math.min(TANK_MAX, s.tank[h] + rain * s.roof[h]);
            }
            s.grass = (int) Math.min(GRASS_MAX, s.grass + rain);
        }

        private void countHeads(Island s) {
            Arrays.fill(heads, 0);
            for (int p = 0; p < s.people.n; p++) {
                if (s.people.state[p] == HERE) {
                    heads[s.people.house[p]]++;
                }
            }
        }

        private void drink(Island s) {
            for (int h = 0; h < HOUSES; h++) {
                int water = heads[h] + s.cattle[h];
                s.dry[h] = s.tank[h] < water ? 1 : 0;
                s.tank[h] = Math.max(0, s.tank[h] - water);
            }
        }

        private static void graze(Island s) {
            int[] stock = s.stores.stock;
            for (int h = 0; h < HOUSES; h++) {
                int onGrass = Math.min(s.cattle[h], s.grass);
                s.grass -= onGrass;
                int onHay = Math.min(s.cattle[h] - onGrass, stock[HAY]);
                stock[HAY] -= onHay;
                s.cattle[h] = onGrass + onHay;
            }
        }

        private void work(Island s, boolean calm) {
            for (int p = 0; p < s.people.n; p++) {
                s.people.post[p] = -1;
            }
            for (int i = 0; i < s.posts.n; i++) {
                long crew = crews.crew[i];
                for (int p = 0; p < s.people.n && crew != 0; p++) {
                    if ((crew >> p & 1) == 1) {
                        s.people.post[p] = i;
                    }
                }
                if (crew != 0 && s.posts.sort[i] == BOAT && calm) {
                    s.stores.gain(FOOD, s.settings[YIELD]);
                }
            }
        }

        private static boolean lands(Island s, boolean calm) {
            boolean landedThisMonth = s.landed >= 0 && s.landed / MONTH == s.week / MONTH;
            return s.week >= MONTH && calm && !landedThisMonth;
        }

        private int feed(Island s) {
            int need = s.people.needOfAll(s.week);
            if (s.stores.stock[FOOD] >= need) {
                s.stores.stock[FOOD] -= need;
                Arrays.fill(s.people.hungry, 0);
                return 0;
            }
            shareOut(s);
            for (int p = 0; p < s.people.n; p++) {
                s.people.hungry[p] = got[p] < s.people.need(p, s.week) ? 1 : 0;
            }
            return 1 << FOOD;
        }

        private void shareOut(Island s) {
            People people = s.people;
            int left = s.stores.stock[FOOD];
            int others = 0;
            for (int p = 0; p < people.n; p++) {
                boolean here = people.state[p] == HERE;
                first[p] = here && judge.allows(s, EATS_FIRST, p) ? 1 : 0;
                got[p] = first[p] == 1 ? Math.min(left, people.need(p, s.week)) : 0;
                left -= got[p];
                if (here && first[p] == 0) {
                    others++;
                }
            }
            int share = others == 0 ? 0 : left / others;
            for (int p = 0; p < people.n; p++) {
                if (first[p] == 0) {
                    got[p] = Math.min(share, people.need(p, s.week));
                    left -= got[p];
                }
            }
            for (int p = 0; p < people.n && left > 0; p++) {
                if (got[p] < people.need(p, s.week)) {
                    got[p]++;
                    left--;
                }
            }
            s.stores.stock[FOOD] = left;
        }

        private int burn(Island s) {
            int lacking = 0;
            for (int g = FUEL; g < GOODS; g++) {
                int use = s.stores.uses[g];
                for (int h = 0; h < HOUSES && g == FUEL; h++) {
                    use += heads[h] > 0 ? 1 : 0;
                }
                if (!s.stores.spend(g, use)) {
                    lacking |= 1 << g;
                }
            }
            return lacking;
        }

        private boolean isFilled(Island s, int sort) {
            for (int i = 0; i < s.posts.n; i++) {
                if (crews.crew[i] != 0 && s.posts.sort[i] == sort) {
                    return true;
                }
            }
            return false;
        }

        private void noteCares(Island s) {
            Arrays.fill(rears, 0);
            Arrays.fill(tends, 0);
            for (int p = 0; p < s.people.n; p++) {
                int kind = s.people.kind(p, s.week);
                if (kind == CHILD && s.people.mother[p] >= 0) {
                    rears[s.people.mother[p]] = 1;
                }
                if (kind == OLD) {
                    tends[s.people.house[p]] = 1;
                }
            }
        }

        private void fret(Island s, boolean cold) {
            People people = s.people;
            boolean school = isFilled(s, SCHOOL);
            boolean nurse = isFilled(s, NURSE);
            noteCares(s);
            for (int p = 0; p < people.n; p++) {
                if (people.state[p] != HERE) {
                    continue;
                }
                int more = people.hungry[p] == 1 ? 2 : 0;
                more += s.dry[people.house[p]] == 1 ? 1 : 0;
                more += !school && rears[p] == 1 ? 2 : 0;
                more += !nurse && tends[people.house[p]] == 1 ? 1 : 0;
                more += cold ? 1 : 0;
                int then = people.discontent[p] + (more == 0 ? -1 : more);
                people.discontent[p] = Math.max(0, Math.min(DISCONTENT_MAX, then));
            }
        }

        private static void payMonth(Island s) {
            s.purse = Math.min(PURSE_MAX, s.purse + 5 * s.people.in(AWAY));
            int rest = s.orderOfPay;
            for (int i = 0; i < 3; i++) {
                int turn = rest % 3;
                rest /= 3;
                if (turn == WAGES || turn == PENSIONS) {
                    payEach(s, turn == PENSIONS);
                } else if (s.purse >= 5) {
                    s.purse -= 5;
                    s.fund += 5;
                }
            }
        }

        private static void payEach(Island s, boolean pensions) {
            for (int p = 0; p < s.people.n; p++) {
                int wage = s.people.wage(p, s.week);
                if (wage == 0 || pensions != (s.people.kind(p, s.week) == OLD)) {
                    continue;
                }
                if (s.purse >= wage) {
                    s.purse -= wage;
                } else {
                    s.unpaid++;
                }
            }
        }

        private void leave(Island s) {
            People people = s.people;
            for (int p = 0; p < people.n; p++) {
                int kind = people.kind(p, s.week);
                boolean mightGo = (kind == PERSON || kind == HAND) && people.discontent[p] >= s.settings[LIMIT];
                if (!mightGo || !judge.allows(s, LEAVES, p)) {
                    continue;
                }
                people.goAway(p);
                for (int c = 0; c < people.n; c++) {
                    if (people.mother[c] == p && people.kind(c, s.week) == CHILD) {
                        people.goAway(c);
                    }
                }
            }
        }
    }
}
