/** Term 4 and promises 23 to 31: each sentence that names an edge. */
public final class StoreEdgeTest {
    private static final int LEAST_BYTE = -128;
    private static final int LEAST_SHORT = -32768;
    private static final int LEAST_INT = Integer.MIN_VALUE;

    public static void main(String[] args) {
        stores();
        storeMax();
        ranks();
        uses();
        usesOfFuel();
        orders();
        ordersThatCame();
        settings();
        settingsWork();
        paysOrders();
        earns();
        shipWeeks();
        shipInMonth();
        calmAsItWent();
        loading();
        loadingByRank();
        lost();
        weatherRefusals();
        rowsAsThen();
        endsOfRows();
        missing();
        meansOfMonths();
        manyMissing();
        Checks.end();
    }

    private static void due(String call, long got, long want) {
        Checks.due(call, got, want);
    }

    private static void stores() {
        Checks.says("n (1 .. 1000) of a GOOD come to its STORE: how much there is. -1; -2: above 9999");
        IslandOffice x = new IslandOffice();
        due("good -1", x.store(-1, 1), -1);
        due("good 4", x.store(4, 1), -1);
        for (int g = 0; g < 4; g++) {
            due("n 0", x.store(g, 0), -1);
            due("n -1", x.store(g, -1), -1);
            due("n 1001", x.store(g, 1001), -1);
            due("n wild", x.store(g, Checks.HIGH), -1);
            due("n 1", x.store(g, 1), 1);
            for (int i = 1; i < 10; i++) {
                due("n 1000", x.store(g, 1000), 1000 * i + 1);
            }
            due("above 9999 by 2", x.store(g, 1000), -2);
            due("above 9999 by 1", x.store(g, 999), -2);
            due("9999", x.store(g, 998), 9999);
            due("above", x.store(g, 1), -2);
        }
    }

    private static IslandOffice almostFull(int good, int n) {
        IslandOffice x = new IslandOffice();
        for (int i = 0; i < n / 1000; i++) {
            x.store(good, 1000);
        }
        if (n % 1000 > 0) {
            x.store(good, n % 1000);
        }
        return x;
    }

    private static void storeMax() {
        Checks.says("a STORE (0 .. 9999: what would be above is lost)");
        int[] there = {9988, 9989, 9990, 9999};
        int[] then = {9998, 9999, 9999, 9999};
        for (int i = 0; i < there.length; i++) {
            IslandOffice x = almostFull(3, there[i]);
            x.order(3, 10);
            x.weeks(5);
            due("loaded onto " + there[i], x.due(0), 0);
            due("room left above " + there[i], x.store(3, 9999 - then[i] + 1), -2);
            due("and no more", then[i] == 9999 ? 9999 : x.store(3, 9999 - then[i]), 9999);
            IslandOffice y = almostFull(0, there[i]);
            y.person(-1500, 0, -1, 1);
            y.post(0, 1, 3);
            y.weeks(1);
            due("fish onto " + there[i] + ", 4 eaten", y.record(0, 2), then[i] - 4);
        }
    }

    private static void ranks() {
        Checks.says("RANK (what = 0, 0 .. 9) of a GOOD: the one before. -1; its number at first");
        IslandOffice x = new IslandOffice();
        due("good -1", x.rank(-1, 0, 1), -1);
        due("good 4", x.rank(4, 0, 1), -1);
        for (int g = 0; g < 4; g++) {
            due("rank -1", x.rank(g, 0, -1), -1);
            due("rank 10", x.rank(g, 0, 10), -1);
            due("what -1", x.rank(g, -1, 1), -1);
            due("what 2", x.rank(g, 2, 1), -1);
            due("rank 9", x.rank(g, 0, 9), g);
            due("rank 0", x.rank(g, 0, 0), 9);
            due("rank 0 again", x.rank(g, 0, 0), 0);
        }
    }

    private static void uses() {
        Checks.says("USE (1, 0 .. 99; of FOOD -1) of a GOOD: the one before; 0 at first");
        IslandOffice x = new IslandOffice();
        for (int n = -1; n < 3; n++) {
            due("FOOD", x.rank(0, 1, n), -1);
        }
        for (int g = 1; g < 4; g++) {
            due("use -1", x.rank(g, 1, -1), -1);
            due("use 100", x.rank(g, 1, 100), -1);
            due("use 99", x.rank(g, 1, 99), 0);
            due("use 10", x.rank(g, 1, 10), 99);
            due("use 0", x.rank(g, 1, 0), 10);
            due("use 0 again", x.rank(g, 1, 0), 0);
        }
        Checks.says("8 USE of FUEL, HAY, SALT goes (what there is); LACKING is a GOOD of whose USE there wasn't enough");
        for (int g = 1; g < 4; g++) {
            IslandOffice y = new IslandOffice();
            y.rank(g, 1, 5);
            y.store(g, 10);
            due("twice 5 of 10", y.lack(g, 2), -2);
            due("then none is left", y.lack(g, 3), 2);
            y.weeks(1);
            due("5 went", y.store(g, 4), 9);
            due("5 of 9, then 4", y.lack(g, 30), 2);
            y.weeks(2);
            due("what there is", y.store(g, 1), 1);
            y.rank(g, 1, 0);
            due("no USE is enough", y.lack(g, 30), -2);
        }
    }

    private static void usesOfFuel() {
        Checks.says("of FUEL 1 for each HOUSE with HEADS more");
        for (int houses = 0; houses <= 12; houses++) {
            IslandOffice x = new IslandOffice();
            x.store(0, 1000);
            x.rank(1, 1, 3);
            for (int h = 0; h < houses; h++) {
                x.person(-1500, h, -1, 0);
                x.person(-1500, h, -1, 0);
            }
            x.store(1, houses + 3);
            due(houses + " houses", x.lack(1, 1), -2);
            due(houses + " houses, a week later", x.lack(1, 2), 1);
            x.weeks(1);
            due("all went", x.store(1, 1), 1);
        }
        IslandOffice y = Checks.someAway();
        y.guest(-1500, 7, 0, 400);
        y.guest(-1500, 8, 0, 5);
        y.store(1, 2);
        due("those away, and a guest that leaves, none; a guest one", y.lack(1, 1), -2);
        y.move(3, 7);
        y.weeks(1);
        due("one house then", y.store(1, 1), 2);
        IslandOffice z = new IslandOffice();
        z.person(-1500, 3, -1, 0);
        due("without fuel", z.lack(1, 1), 0);
        z.death(0);
        due("without heads", z.lack(1, 30), -2);
    }

    private static void orders() {
        Checks.says("An ORDER of n (1 .. 500) of a GOOD: its number. -1; -2: there are 30");
        IslandOffice x = new IslandOffice();
        due("good -1", x.order(-1, 1), -1);
        due("good 4", x.order(4, 1), -1);
        due("n 0", x.order(0, 0), -1);
        due("n 501", x.order(0, 501), -1);
        due("n wild", x.order(0, Checks.LOW), -1);
        due("n 1", x.order(0, 1), 0);
        due("n 500", x.order(3, 500), 1);
        due("due(-1)", x.due(-1), -1);
        due("due(2)", x.due(2), -1);
        due("due(0)", x.due(0), 1);
        due("due(1)", x.due(1), 500);
        for (int i = 2; i < 30; i++) {
            due("order", x.order(1, 2), i);
        }
        due("the one behind 30", x.order(1, 2), -2);
        due("due(29)", x.due(29), 2);
        due("due(30)", x.due(30), -1);
        due("count", x.count(6), 30);
    }

    private static void ordersThatCame() {
        Checks.says("ORDERS, 30 at most (those that came, too)");
        IslandOffice x = new IslandOffice();
        for (int i = 0; i < 30; i++) {
            x.order(2, 1);
        }
        x.weeks(5);
        int left = 0;
        for (int i = 0; i < 30; i++) {
            left += x.due(i);
        }
        due("all came", left, 0);
        due("no room all the same", x.order(2, 1), -2);
        due("count", x.count(6), 30);
    }

    private static void settings() {
        Checks.says("What = 0 ROOM (0 .. 500; 60 at first), 1 CALM (0 .. 9999; 50), 2 YIELD (0 .. 99; 10), 3 LIMIT (1 .. 99; 12)");
        IslandOffice x = new IslandOffice();
        int[] first = {60, 50, 10, 12};
        int[] least = {0, 0, 0, 1};
        int[] most = {500, 9999, 99, 99};
        due("what -1", x.set(-1, 5), -1);
        due("what 4", x.set(4, 5), -1);
        for (int what = 0; what < 4; what++) {
            due("too small", x.set(what, least[what] - 1), -1);
            due("too large", x.set(what, most[what] + 1), -1);
            due("most", x.set(what, most[what]), first[what]);
            due("least", x.set(what, least[what]), most[what]);
            due("least again", x.set(what, least[what]), least[what]);
        }
    }

    private static void settingsWork() {
        Checks.says("YIELD, 0 .. 99");
        int[] yields = {0, 1, 99};
        for (int yield : yields) {
            IslandOffice x = new IslandOffice();
            x.person(-1500, 0, -1, 1);
            x.store(0, 4);
            x.post(0, 1, 3);
            x.set(2, yield);
            x.weeks(1);
            due("YIELD " + yield, x.record(0, 2), yield);
        }
        Checks.says("ROOM (0 .. 500)");
        int[] rooms = {0, 1, 499, 500};
        for (int room : rooms) {
            IslandOffice x = new IslandOffice();
            x.set(0, room);
            x.order(3, 500);
            x.weeks(5);
            due("ROOM " + room, x.due(0), 500 - room);
            due("THE SHIP LANDED all the same", x.count(14), 4);
        }
        Checks.says("LIMIT (1 .. 99)");
        int[] limits = {1, 98, 99};
        for (int limit : limits) {
            IslandOffice x = new IslandOffice();
            x.set(3, limit);
            x.person(-1500, 0, -1, 0);
            x.weeks(5);
            due("LIMIT " + limit, x.about(0, 5), limit == 1 ? 1 : 0);
        }
    }

    private static void paysOrders() {
        Checks.says("THE ORDER as digits (the first the lowest, base 3): 1 if it was another, else 0. -1: no permutation");
        IslandOffice x = new IslandOffice();
        int before = 21;
        for (int n = -3; n < 82; n++) {
            int a = n % 3;
            int b = n / 3 % 3;
            int c = n / 9;
            boolean is = n >= 0 && n < 27 && a != b && b != c && a != c;
            due("pays(" + n + ")", x.pays(n), !is ? -1 : n == before ? 0 : 1);
            if (is) {
                before = n;
                due("the same", x.pays(n), 0);
            }
        }
        due("wild", x.pays(Checks.HIGH), -1);
        due("wild", x.pays(Checks.LOW), -1);
        due("as it was", x.pays(before), 0);
        for (int from = -1500; from < 1500; from += 300) {
            IslandOffice y = new IslandOffice();
            for (int n = from; n < from + 300; n++) {
                if (n < 0 || n >= 27) {
                    due("pays(" + n + ")", y.pays(n), -1);
                }
            }
            due("as at first", y.pays(21), 0);
        }
    }

    private static void earns() {
        Checks.says("n (1 .. 10000) come to THE PURSE: what there is. -1; -2: above 1000000");
        IslandOffice x = new IslandOffice();
        due("n 0", x.earn(0), -1);
        due("n -1", x.earn(-1), -1);
        due("n 10001", x.earn(10001), -1);
        due("n wild", x.earn(Checks.HIGH), -1);
        due("n 1", x.earn(1), 1);
        for (int i = 1; i < 100; i++) {
            due("n 10000", x.earn(10000), 10000 * i + 1);
        }
        due("above by 1", x.earn(10000), -2);
        due("999999", x.earn(9998), 999999);
        due("above by 1", x.earn(2), -2);
        due("1000000", x.earn(1), 1000000);
        due("above by 1", x.earn(1), -2);
        due("THE PURSE", x.count(8), 1000000);
        Checks.says("An object is used for at most 512 calls");
        IslandOffice y = new IslandOffice();
        for (int call = 1; call <= 512; call++) {
            due("call " + call, y.earn(3), 3 * call);
        }
    }

    private static void sky(IslandOffice x, boolean rain, int... cells) {
        Checks.rowOf(x, 6, 1, cells);
        due("size", x.weather(6, rain), cells.length);
    }

    private static void shipWeeks() {
        Checks.says("comes in week 4, 8, 12, ..: it LANDS in the first of that week and the 3 behind it");
        IslandOffice x = new IslandOffice();
        int[] landed = {-2, -2, -2, -2, 4, 4, 4, 4, 8, 8, 8, 8, 12};
        for (int w = 0; w < landed.length; w++) {
            x.weeks(1);
            due("behind week " + w, x.count(14), landed[w]);
        }
    }

    private static void shipInMonth() {
        Checks.says("whose WEATHER is CALM or less; in none: not in this MONTH");
        for (int calmWeek = 3; calmWeek <= 8; calmWeek++) {
            int[] cells = new int[8];
            for (int w = 0; w < 8; w++) {
                cells[w] = w == calmWeek ? 50 : 51;
            }
            IslandOffice x = new IslandOffice();
            sky(x, false, cells);
            x.order(3, 7);
            x.weeks(8);
            boolean comes = calmWeek >= 4 && calmWeek <= 7;
            due("calm in " + calmWeek, x.count(14), comes ? calmWeek : -2);
            due("loaded", x.due(0), comes ? 0 : 7);
            x.weeks(1);
            due("in week 8, too", x.count(14), 8);
            due("loaded", x.due(0), 0);
        }
        IslandOffice y = new IslandOffice();
        sky(y, false, 0, 0, 0, 0, 1, 1, 1, 0, 0);
        y.set(1, 0);
        y.weeks(8);
        due("CALM 0, in week 7", y.count(14), 7);
        y.weeks(1);
        due("and the week behind it, in the next MONTH", y.count(14), 8);
        IslandOffice z = new IslandOffice();
        sky(z, false, 0, 0, 0, 0, 10000, 9999);
        z.set(1, 9999);
        z.weeks(5);
        due("WEATHER 10000 is above each CALM", z.count(14), -2);
        z.weeks(1);
        due("9999 isn't", z.count(14), 5);
    }

    private static void calmAsItWent() {
        Checks.says("CALM as each went by");
        IslandOffice x = new IslandOffice();
        sky(x, false, 0, 0, 0, 0, 60, 55, 60, 60, 60, 60);
        x.weeks(5);
        x.set(1, 60);
        due("not behind its time", x.count(14), -2);
        x.set(1, 54);
        x.weeks(1);
        due("55 is above 54", x.count(14), -2);
        x.set(1, 60);
        x.weeks(1);
        due("60 is 60", x.count(14), 6);
        x.set(1, 0);
        x.weeks(1);
        due("landed already", x.count(14), 6);
        x.weeks(2);
        due("not yet in the next MONTH", x.count(14), 6);
        x.weeks(1);
        due("0 behind the row's end", x.count(14), 10);
    }

    private static void loading() {
        Checks.says("each as much as there is ROOM left; what isn't loaded stays");
        int[][] ordered = {{20, 40, 1}, {20, 39, 1}, {59, 2, 1}, {60, 1, 1}, {61, 1, 1}, {500, 5, 5}, {1, 1, 1}};
        int[][] stays = {{0, 0, 1}, {0, 0, 0}, {0, 1, 1}, {0, 1, 1}, {1, 1, 1}, {440, 5, 5}, {0, 0, 0}};
        for (int k = 0; k < ordered.length; k++) {
            IslandOffice x = new IslandOffice();
            for (int i = 0; i < 3; i++) {
                x.order(3, ordered[k][i]);
            }
            x.weeks(5);
            for (int i = 0; i < 3; i++) {
                due("case " + k + ", order " + i, x.due(i), stays[k][i]);
            }
        }
        IslandOffice y = new IslandOffice();
        y.order(3, 130);
        y.weeks(5);
        due("60 of 130", y.due(0), 70);
        y.weeks(4);
        due("60 more", y.due(0), 10);
        y.order(2, 100);
        y.weeks(4);
        due("HAY is ahead of SALT", y.due(0), 10);
        due("60 of HAY", y.due(1), 40);
        y.weeks(4);
        due("all", y.due(0) + y.due(1), 0);
        due("SALT", y.store(3, 1), 131);
        due("HAY", y.store(2, 1), 101);
    }

    private static void loadingByRank() {
        Checks.says("ORDERS by RANK (0 first) of their GOOD, of like ones as they came");
        for (int rank = 0; rank <= 9; rank++) {
            IslandOffice x = new IslandOffice();
            x.rank(3, 0, rank);
            x.rank(2, 0, 5);
            x.order(2, 60);
            x.order(3, 60);
            x.weeks(5);
            due("SALT of RANK " + rank, x.due(1), rank < 5 ? 0 : 60);
            due("HAY of RANK 5", x.due(0), rank < 5 ? 60 : 0);
            x.weeks(4);
            due("both in the end", x.due(0) + x.due(1), 0);
        }
        IslandOffice y = new IslandOffice();
        for (int g = 0; g < 4; g++) {
            y.rank(g, 0, 9);
        }
        int[] goods = {3, 1, 0, 2, 3};
        for (int g : goods) {
            y.order(g, 20);
        }
        y.weeks(5);
        int[] stays = {0, 0, 0, 20, 20};
        for (int i = 0; i < 5; i++) {
            due("all of RANK 9: order " + i, y.due(i), stays[i]);
        }
        IslandOffice z = new IslandOffice();
        z.order(3, 60);
        z.order(0, 60);
        z.weeks(4);
        z.rank(3, 0, 0);
        z.rank(0, 0, 1);
        z.weeks(1);
        due("RANK as THE SHIP LANDS", z.due(0), 0);
        due("FOOD stays", z.due(1), 60);
    }

    private static void lost() {
        Checks.says("what would be above is lost");
        IslandOffice x = almostFull(2, 9990);
        x.order(2, 5);
        x.order(2, 5);
        x.order(3, 50);
        x.weeks(5);
        due("the ROOM was taken", x.due(0) + x.due(1) + x.due(2), 0);
        due("9999", x.store(2, 1), -2);
        due("SALT", x.store(3, 1), 51);
    }

    private static void weatherRefusals() {
        Checks.says("WEATHER or RAIN becomes the ROW in SHELF d: its size. -1, -11, -12");
        IslandOffice x = new IslandOffice();
        boolean[] both = {false, true};
        for (boolean rain : both) {
            due("shelf -1", x.weather(-1, rain), -1);
            due("shelf 8", x.weather(8, rain), -1);
            due("nothing", x.weather(7, rain), -11);
        }
        x.person(-1500, 0, -1, 0);
        x.keep(7, 1, 0);
        due("a person", x.weather(7, false), -12);
        Checks.law(x, "v:a>1");
        x.keep(7, 2, 0);
        due("a law", x.weather(7, true), -12);
        for (int sort = 0; sort < 3; sort++) {
            x.row(6, sort, 120);
            due("size", x.weather(6, false), 120);
            x.row(6, sort, 0);
            due("size", x.weather(6, false), 0);
        }
    }

    private static void rowsAsThen() {
        Checks.says("WEATHER, RAIN are ROWS that were given (as they were then)");
        IslandOffice x = new IslandOffice();
        Checks.rowOf(x, 0, 0, 1, 2, 3);
        x.weather(0, false);
        Checks.rowOf(x, 0, 2, 4, 5);
        due("a new row there", x.sky(2, false), 3);
        x.weather(0, true);
        x.put(0, 0, 9);
        due("an element put since", x.sky(0, true), 4);
        x.keep(0, 0, 0);
        due("nothing there", x.sky(1, true), 5);
        due("the other is another", x.sky(1, false), 2);
        x.row(0, 0, 0);
        x.weather(0, false);
        due("an empty one", x.sky(1, false), 0);
        due("RAIN stays", x.sky(1, true), 5);
        Checks.says("sky: -1");
        due("week -1", x.sky(-1, true), -1);
        due("week 401", x.sky(401, true), -1);
        due("week 400", x.sky(400, true), 0);
    }

    private static void endsOfRows() {
        Checks.says("in week w element w (0 behind their ends; one below 0 counts as 0)");
        IslandOffice x = new IslandOffice();
        due("none was given", x.sky(0, false), 0);
        sky(x, false, 5, -1, 0, 1, 32767, -32767);
        int[] want = {5, 0, 0, 1, 32767, 0, 0, 0, 0};
        for (int w = 0; w < want.length; w++) {
            due("sky(" + w + ")", x.sky(w, false), want[w]);
        }
        x.row(0, 0, 120);
        for (int i = 0; i < 120; i++) {
            x.put(0, i, 7);
        }
        x.weather(0, true);
        due("the first", x.sky(0, true), 7);
        due("the last", x.sky(119, true), 7);
        due("behind the last", x.sky(120, true), 0);
        due("in the last week", x.sky(400, true), 0);
    }

    private static void missing() {
        Checks.says("What is the least number of its SORT is MISSING");
        int[][] cells = {
            {LEAST_BYTE, LEAST_BYTE + 1, 60, 60}, {LEAST_SHORT, LEAST_BYTE, 60, 60}, {LEAST_SHORT, LEAST_SHORT + 1, 60, 60},
            {LEAST_INT, LEAST_SHORT, 60, 60}, {LEAST_INT, LEAST_INT + 1, 60, 60}, {LEAST_INT, LEAST_BYTE, 60, 60}};
        int[] sorts = {0, 1, 1, 2, 2, 2};
        for (int k = 0; k < cells.length; k++) {
            IslandOffice x = new IslandOffice();
            Checks.rowOf(x, 0, sorts[k], cells[k]);
            x.weather(0, false);
            due("MISSING, case " + k, x.sky(0, false), 40);
            due("below 0, case " + k, x.sky(1, false), 0);
        }
        IslandOffice y = new IslandOffice();
        Checks.rowOf(y, 0, 0, 128, 127, 127, 127);
        y.weather(0, false);
        due("128 was put into bytes", y.sky(0, false), 127);
        Checks.rowOf(y, 0, 1, 32768, 32767, 1, 1);
        y.weather(0, false);
        due("32768 was put into shorts", y.sky(0, false), 32769 / 3);
    }

    private static void meansOfMonths() {
        Checks.says("it is the mean (cut) of all (those below 0 as 0) in its MONTH that are there and aren't MISSING");
        int[][] rows = {
            {LEAST_BYTE, 1, 1, 1, 90}, {LEAST_BYTE, 1, 1, 0, 90}, {LEAST_BYTE, 2, 2, 1}, {LEAST_BYTE, 2, 2, 2},
            {LEAST_BYTE, 5, 6}, {LEAST_BYTE, 5}, {LEAST_BYTE}, {LEAST_BYTE, LEAST_BYTE, 9, 10}, {LEAST_BYTE, -9, 9, 9},
            {LEAST_BYTE, LEAST_BYTE, LEAST_BYTE, 7}, {LEAST_BYTE, -1, -1, -1}, {LEAST_BYTE, 127, 127, 127}};
        int[] means = {1, 0, 1, 2, 5, 5, 0, 9, 6, 7, 0, 127};
        for (int k = 0; k < rows.length; k++) {
            IslandOffice x = new IslandOffice();
            Checks.rowOf(x, 0, 0, rows[k]);
            x.weather(0, true);
            due("mean, case " + k, x.sky(0, true), means[k]);
        }
        Checks.says("its MONTH (MONTH w / 4)");
        IslandOffice x = new IslandOffice();
        Checks.rowOf(x, 0, 0, 100, 100, 100, LEAST_BYTE, LEAST_BYTE, 8, 9, 10, LEAST_BYTE, LEAST_BYTE, 20, LEAST_BYTE);
        x.weather(0, false);
        int[] want = {100, 100, 100, 100, 9, 8, 9, 10, 20, 20, 20, 20, 0};
        for (int w = 0; w < want.length; w++) {
            due("sky(" + w + ")", x.sky(w, false), want[w]);
        }
        Checks.rowOf(x, 0, 2, LEAST_INT, Checks.HIGH, Checks.HIGH, Checks.HIGH - 1);
        x.weather(0, false);
        due("great ones", x.sky(0, false), Checks.HIGH - 1);
    }

    private static void manyMissing() {
        Checks.says("(0, if none)");
        IslandOffice x = new IslandOffice();
        x.row(0, 1, 120);
        for (int i = 0; i < 120; i++) {
            x.put(0, i, LEAST_SHORT);
        }
        x.put(0, 119, 40);
        x.put(0, 0, 41);
        x.weather(0, false);
        due("first MONTH", x.sky(3, false), 41);
        due("a MONTH of none", x.sky(4, false), 0);
        due("a MONTH of none", x.sky(115, false), 0);
        due("last MONTH", x.sky(116, false), 40);
        due("behind its end", x.sky(120, false), 0);
        Checks.says("WEATHER that is MISSING is the mean: so THE SHIP LANDS by it");
        IslandOffice y = new IslandOffice();
        sky(y, false, 0, 0, 0, 0, LEAST_SHORT, 50, 52, LEAST_SHORT);
        y.set(1, 51);
        y.weeks(5);
        due("51 in week 4", y.count(14), 4);
    }
}
