/** Term 5 and promises 32, 33: each sentence that names an edge. */
public final class WeekEdgeTest {
    private static final int YEAR = 52;

    public static void main(String[] args) {
        weeksRange();
        guestsFirst();
        tanks();
        grass();
        water();
        cattle();
        boats();
        enoughFood();
        rationed();
        shares();
        sharesOfThoseHere();
        oneMore();
        eatersByLaw();
        sharesByAllNumbers();
        lackingFuel();
        discontentParts();
        discontentRange();
        mothersOfChildren();
        oldOnes();
        fillsOfSorts();
        monthEnds();
        payments();
        fund();
        purseMax();
        sends();
        leaves();
        whoLeaves();
        oneBehindTheOther();
        childrenLeave();
        recordRefusals();
        recordParts();
        Checks.end();
    }

    private static void due(String call, long got, long want) {
        Checks.due(call, got, want);
    }

    private static void rain(IslandOffice x, int... cells) {
        Checks.rowOf(x, 6, 2, cells);
        x.weather(6, true);
    }

    private static void weeksRange() {
        Checks.says("n weeks (1 .. 52) go by: HEADS then. -1; -2: beyond 400");
        IslandOffice x = new IslandOffice();
        int[] refused = {Checks.LOW, -1, 0, 53, Checks.HIGH};
        for (int n : refused) {
            due("weeks(" + n + ")", x.weeks(n), -1);
        }
        due("THE WEEK", x.count(7), 0);
        due("weeks(52)", x.weeks(52), 0);
        due("weeks(1)", x.weeks(1), 0);
        due("THE WEEK", x.count(7), 53);
        IslandOffice y = Checks.inWeek(350);
        due("51 beyond", y.weeks(51), -2);
        due("52 beyond", y.weeks(52), -2);
        due("53", y.weeks(53), -1);
        due("THE WEEK", y.count(7), 350);
        due("to 400", y.weeks(50), 0);
        due("1 beyond", y.weeks(1), -2);
        due("0", y.weeks(0), -1);
        due("THE WEEK", y.count(7), 400);
        IslandOffice z = new IslandOffice();
        z.person(-1500, 0, -1, 0);
        z.person(-1500, 0, -1, 0);
        z.guest(-1500, 0, 0, 1);
        due("HEADS", z.weeks(1), 3);
        due("HEADS", z.weeks(1), 2);
        z.set(3, 1);
        due("HEADS", z.weeks(3), 0);
    }

    private static void guestsFirst() {
        Checks.says("1 Guests whose END is w or earlier are gone");
        IslandOffice x = new IslandOffice();
        x.guest(-1500, 4, 1, 0);
        x.guest(-1500, 4, 1, 1);
        x.post(0, 1, 0);
        x.store(0, 20);
        x.store(1, 20);
        x.weeks(1);
        due("gone ahead of the water", x.home(4, 2), 19);
        due("of the food", x.record(0, 2), 15);
        due("of POSTS", x.about(0, 7), -2);
        due("the other has it", x.about(1, 7), 0);
        x.weeks(1);
        due("nobody drinks", x.home(4, 2), 19);
        due("nobody eats", x.record(1, 2), 15);
        due("no fuel", x.store(1, 1), 20);
        due("record: heads", x.record(1, 0), 0);
        due("record: posts", x.record(1, 4), 0);
    }

    private static void tanks() {
        Checks.says("2 Each TANK has RAIN times ROOF more (200 at most)");
        int[] rains = {0, 1, 20, 60, 61, 90, -1, Checks.HIGH, 715827883, 1431655765};
        int[] roof3 = {20, 23, 80, 200, 200, 200, 20, 200, 200, 200};
        int[] roof9 = {20, 29, 200, 200, 200, 200, 20, 200, 200, 200};
        int[] roof2 = {20, 22, 60, 140, 142, 200, 20, 200, 200, 200};
        for (int k = 0; k < rains.length; k++) {
            IslandOffice x = new IslandOffice();
            x.house(0, 0, 9);
            x.house(1, 0, 2);
            rain(x, rains[k]);
            x.weeks(1);
            due("ROOF 9, RAIN " + rains[k], x.home(0, 2), roof9[k]);
            due("ROOF 2, RAIN " + rains[k], x.home(1, 2), roof2[k]);
            due("ROOF 3, RAIN " + rains[k], x.home(11, 2), roof3[k]);
        }
        IslandOffice y = new IslandOffice();
        y.person(-1500, 0, -1, 0);
        rain(y, 60, 1, 0, 1);
        y.weeks(1);
        due("200, then 1 drinks", y.home(0, 2), 199);
        y.weeks(1);
        due("200 at most, then 1 drinks", y.home(0, 2), 199);
        y.weeks(2);
        due("198 and 3, then 1 drinks", y.home(0, 2), 199);
    }

    private static void grass() {
        Checks.says("GRASS RAIN more (500 at most; 100 at first)");
        int[] rains = {0, 1, 399, 400, 401, -5, Checks.HIGH};
        int[] want = {100, 101, 499, 500, 500, 100, 500};
        for (int k = 0; k < rains.length; k++) {
            IslandOffice x = new IslandOffice();
            rain(x, rains[k]);
            x.weeks(1);
            due("RAIN " + rains[k], x.count(11), want[k]);
        }
        IslandOffice y = new IslandOffice();
        rain(y, 400, Checks.HIGH);
        y.house(0, 10, 3);
        y.weeks(1);
        due("10 eaten of 500", y.count(11), 490);
        y.weeks(1);
        due("again", y.count(11), 490);
    }

    private static void water() {
        Checks.says("3 water for HEADS and CATTLE, 1 each; if there isn't enough the TANK is empty, and the HOUSE is DRY");
        for (int cattle = 17; cattle <= 20; cattle++) {
            IslandOffice x = new IslandOffice();
            x.person(-1500, 9, -1, 0);
            x.guest(-1500, 9, 0, 400);
            x.guest(-1500, 9, 0, 0);
            x.house(9, cattle, 3);
            x.house(3, 20, 3);
            x.weeks(1);
            due("TANK with " + cattle, x.home(9, 2), cattle == 17 ? 1 : 0);
            due("DRY with " + cattle, x.home(9, 4), cattle > 18 ? 1 : 0);
            due("20 for 20", x.home(3, 2), 0);
            due("20 for 20", x.home(3, 4), 0);
        }
        IslandOffice y = new IslandOffice();
        y.house(0, 20, 3);
        y.weeks(1);
        y.house(0, 0, 3);
        y.weeks(1);
        due("an empty TANK is enough for nobody", y.home(0, 4), 0);
        y.house(0, 1, 3);
        y.weeks(1);
        due("not for one", y.home(0, 4), 1);
        rain(y, 0, 0, 0, 1);
        y.house(0, 4, 3);
        y.weeks(1);
        due("3 for 4: DRY", y.home(0, 4), 1);
        due("3 for 4: empty", y.home(0, 2), 0);
    }

    private static void cattle() {
        Checks.says("4 each of CATTLE eats 1 GRASS, else 1 HAY, else one of them dies (for each that has neither)");
        int[] hay = {0, 1, 4, 5, 6};
        for (int there : hay) {
            IslandOffice x = new IslandOffice();
            for (int h = 0; h < 5; h++) {
                x.house(h, 20, 3);
            }
            x.house(5, 5, 3);
            x.house(6, 1, 3);
            if (there > 0) {
                x.store(2, there);
            }
            x.weeks(1);
            due("GRASS", x.count(11), 0);
            due("HAY " + there + ": house 4", x.home(4, 1), 20);
            due("HAY " + there + ": house 5", x.home(5, 1), Math.min(5, there));
            due("HAY " + there + ": house 6", x.home(6, 1), there > 5 ? 1 : 0);
            due("HAY left", x.store(2, 1), 1);
        }
        IslandOffice y = new IslandOffice();
        y.house(0, 20, 3);
        y.weeks(5);
        due("100 GRASS, five weeks of 20", y.home(0, 1), 20);
        rain(y, 0, 0, 0, 0, 0, 7);
        y.store(2, 2);
        y.weeks(1);
        due("7 GRASS and 2 HAY for 20", y.home(0, 1), 9);
        due("HAY isn't LACKING by that", y.lack(2, 5), -2);
    }

    private static void boats() {
        Checks.says("5 each boat that is FILLED, where WEATHER is CALM or less, has FISH");
        int[] weathers = {0, 49, 50, 51};
        for (int weather : weathers) {
            IslandOffice x = new IslandOffice();
            x.person(-1500, 0, -1, 1);
            x.person(-1500, 0, -1, 1);
            x.post(0, 1, 3);
            x.post(0, 1, 3);
            x.post(0, 1, 3);
            x.store(0, 8);
            Checks.rowOf(x, 6, 1, weather);
            x.weather(6, false);
            x.weeks(1);
            due("WEATHER " + weather, x.record(0, 2), weather <= 50 ? 20 : 0);
        }
        for (int sort = 0; sort < 3; sort++) {
            IslandOffice x = new IslandOffice();
            x.person(-1500, 0, -1, 1);
            x.post(0, 1, sort);
            x.store(0, 4);
            x.weeks(1);
            due("SORT " + sort + " is no boat", x.record(0, 2), 0);
        }
        Checks.says("5 FISH for FOOD; 7 FOOD: the FISH of the week is eaten in it");
        IslandOffice y = new IslandOffice();
        y.person(-1500, 0, -1, 1);
        y.post(0, 1, 3);
        y.weeks(1);
        due("10 less 4", y.record(0, 2), 6);
        due("not HUNGRY", y.about(0, 10), 0);
        Checks.says("6 THE SHIP. 7 FOOD: what was loaded is eaten in that week");
        IslandOffice z = new IslandOffice();
        z.person(-1500, 0, -1, 0);
        z.store(0, 12);
        z.order(0, 3);
        z.order(1, 1);
        z.store(1, 4);
        due("FOOD", z.lack(0, 30), 5);
        due("FUEL", z.lack(1, 30), 5);
    }

    /** 3 of NEED (a person), 2 (a child) and 4 (a guest). */
    private static IslandOffice eaters(int food) {
        IslandOffice x = new IslandOffice();
        x.person(-1500, 0, -1, 0);
        x.person(-100, 0, -1, 0);
        x.guest(-1500, 0, 0, 400);
        if (food > 0) {
            x.store(0, food);
        }
        return x;
    }

    private static void enoughFood() {
        Checks.says("7 FOOD: if there is as much as all NEED together, all eat; else RATIONING");
        for (int food = 7; food <= 11; food++) {
            IslandOffice x = eaters(food);
            due("LACKING with " + food, x.lack(0, 1), food < 9 ? 0 : -2);
            x.weeks(1);
            due("left of " + food, x.record(0, 2), food > 9 ? food - 9 : 0);
            due("HUNGRY with " + food, x.about(0, 10) + x.about(1, 10) + x.about(2, 10), food >= 9 ? 0 : 1);
        }
        IslandOffice y = new IslandOffice();
        due("nobody needs any", y.lack(0, 30), -2);
        IslandOffice z = Checks.someAway();
        z.death(3);
        due("nor those away", z.lack(0, 30), -2);
    }

    private static void rationed() {
        Checks.says("each other one here (how much is left divided by how many these are, cut; NEED at most)");
        // 0 .. 2: 0 each, 3 .. 5: 1 each, 6 .. 8: 2 each; then 1 more each by numbers as far as it goes.
        int[][] hungry = {
            {1, 1, 1}, {1, 1, 1}, {1, 1, 1}, {1, 1, 1}, {1, 1, 1}, {1, 0, 1}, {1, 0, 1}, {0, 0, 1}, {0, 0, 1}};
        for (int food = 0; food < 9; food++) {
            IslandOffice x = eaters(food);
            x.weeks(1);
            due("left of " + food, x.record(0, 2), 0);
            for (int p = 0; p < 3; p++) {
                due("HUNGRY " + p + " with " + food, x.about(p, 10), hungry[food][p]);
            }
        }
    }

    private static void shares() {
        Checks.says("then by numbers 1 more each, as long as there is some and NEED isn't met, once");
        // Two children (2) and two guests with POSTS (5): 14 in all.
        // 8 .. 11: 2 each, then 1 more for each guest as far as it goes; 12, 13: 3 each (2 a child), then 1 more.
        int[] left = {0, 0, 0, 1, 0, 1};
        for (int food = 8; food < 14; food++) {
            IslandOffice x = new IslandOffice();
            x.person(-100, 0, -1, 0);
            x.person(-100, 0, -1, 0);
            x.guest(-1500, 0, 1, 400);
            x.guest(-1500, 0, 1, 400);
            x.post(0, 2, 0);
            x.store(0, food);
            x.weeks(1);
            due("left of " + food, x.record(0, 2), left[food - 8]);
            due("children of " + food, x.about(0, 10) + x.about(1, 10), 0);
            due("guests of " + food, x.about(2, 10) + x.about(3, 10), 2);
        }
        IslandOffice y = new IslandOffice();
        for (int p = 0; p < 4; p++) {
            y.person(-100, 0, -1, 0);
        }
        y.guest(-1500, 0, 1, 400);
        y.post(0, 1, 0);
        y.store(0, 12);
        y.weeks(1);
        // 13 are needed: 2 each, 1 more for the guest, 1 is left.
        due("once: one is left", y.record(0, 2), 1);
        due("though the guest is HUNGRY", y.about(4, 10), 1);
    }

    private static void sharesOfThoseHere() {
        Checks.says("each other one here (how much is left divided by how many these are): not those away or gone");
        for (int food = 2; food <= 7; food++) {
            IslandOffice x = Checks.someAway();
            x.person(-100, 0, -1, 0);
            x.person(-1500, 0, -1, 0);
            x.guest(-1500, 0, 0, 5);
            x.guest(-1500, 0, 0, 400);
            x.death(5);
            x.store(0, food);
            x.weeks(1);
            // An OLD one (2), a CHILD (2) and a GUEST (4) are here.
            due("OLD with " + food, x.about(3, 10), food >= 4 ? 0 : 1);
            due("CHILD with " + food, x.about(4, 10), food >= 5 ? 0 : 1);
            due("GUEST with " + food, x.about(7, 10), 1);
            due("none away or gone is HUNGRY", x.about(0, 10) + x.about(1, 10) + x.about(5, 10) + x.about(6, 10), 0);
            due("left of " + food, x.record(5, 2), 0);
        }
        IslandOffice y = Checks.someAway();
        for (int p = 0; p < 4; p++) {
            y.person(-100, 0, -1, 0);
        }
        y.guest(-1500, 0, 0, 400);
        y.death(3);
        y.store(0, 11);
        y.weeks(1);
        // 2 each for the five, then 1 more for the guest. Divided by nine it would be 1 each, then 1 more: 10.
        due("11 for five that are here", y.record(5, 2), 0);
        Checks.says("then by numbers 1 more each .. NEED isn't met");
        IslandOffice z = Checks.someAway();
        z.death(3);
        z.guest(-1500, 0, 0, 400);
        z.store(0, 2);
        z.weeks(1);
        due("2 for the guest alone", z.record(5, 2), 0);
        z.store(0, 3);
        z.weeks(1);
        due("3 for the guest alone", z.record(6, 2), 0);
    }

    private static void oneMore() {
        Checks.says("by numbers 1 more each");
        for (int more = 0; more <= 4; more++) {
            IslandOffice x = new IslandOffice();
            for (int p = 0; p < 4; p++) {
                x.person(p == 1 ? -100 : -1500, 0, -1, 0);
            }
            x.store(0, 8 + Math.min(2, more));
            x.weeks(1);
            // 11 are needed: 2 each, the child (1) has enough then.
            int[] hungry = {more >= 1 ? 0 : 1, 0, more >= 2 ? 0 : 1, 1};
            for (int p = 0; p < 4; p++) {
                due("HUNGRY " + p + ", " + more + " more", x.about(p, 10), hungry[p]);
            }
        }
    }

    private static void eatersByLaw() {
        Checks.says("RATIONING: those here for whom e's LAW holds, by numbers, their NEED as far as it goes");
        // The hand has its 3, then the guest its 4; what is left is shared by the person (3) and the child (2).
        int[][] hungry = {
            {1, 1, 1, 1}, {1, 1, 1, 1}, {1, 1, 1, 1}, {1, 0, 1, 1}, {1, 0, 1, 1}, {1, 0, 1, 1}, {1, 0, 1, 1},
            {1, 0, 1, 0}, {1, 0, 1, 0}, {1, 0, 1, 0}, {1, 0, 1, 0}, {1, 0, 0, 0}, {0, 0, 0, 0}};
        for (int food = 0; food <= 12; food++) {
            IslandOffice x = new IslandOffice();
            x.person(-1500, 0, -1, 0);
            x.person(-1500, 0, -1, 1);
            x.person(-100, 0, -1, 0);
            x.guest(-1500, 0, 1, 400);
            Checks.law(x, "e:s=1");
            x.store(0, 12);
            x.weeks(1);
            if (food > 0) {
                x.store(0, food);
            }
            x.weeks(1);
            due("left of " + food, x.record(1, 2), 0);
            for (int p = 0; p < 4; p++) {
                due("HUNGRY " + p + " with " + food, x.about(p, 10), hungry[food][p]);
            }
        }
    }

    private static void sharesByAllNumbers() {
        Checks.says("e: all eat first: by numbers, as far as it goes");
        for (int food = 0; food <= 9; food++) {
            IslandOffice x = eaters(9);
            Checks.law(x, "e:1=1");
            x.weeks(1);
            if (food > 0) {
                x.store(0, food);
            }
            x.weeks(1);
            due("0 with " + food, x.about(0, 10), food >= 3 ? 0 : 1);
            due("1 with " + food, x.about(1, 10), food >= 5 ? 0 : 1);
            due("2 with " + food, x.about(2, 10), food >= 9 ? 0 : 1);
            due("left", x.record(1, 2), 0);
        }
    }

    private static void lackingFuel() {
        Checks.says("LACKING is a GOOD of whose USE there wasn't enough; 1 more if FUEL is LACKING");
        for (int fuel = 0; fuel <= 4; fuel++) {
            IslandOffice x = new IslandOffice();
            x.person(-1500, 0, -1, 0);
            x.person(-1500, 7, -1, 0);
            x.store(0, 99);
            x.rank(1, 1, 1);
            if (fuel > 0) {
                x.store(1, fuel);
            }
            x.weeks(1);
            due("DISCONTENT with " + fuel, x.about(0, 6), fuel < 3 ? 1 : 0);
            due("left of " + fuel, x.store(1, 1), Math.max(0, fuel - 3) + 1);
        }
        IslandOffice y = new IslandOffice();
        y.person(-1500, 0, -1, 0);
        y.store(0, 99);
        y.store(1, 99);
        y.rank(2, 1, 1);
        y.rank(3, 1, 1);
        y.weeks(1);
        due("HAY and SALT make nobody discontent", y.about(0, 6), 0);
    }

    private static void discontentParts() {
        Checks.says("9 DISCONTENT: 2 more if HUNGRY, 1 more if the HOUSE is DRY, 2 more if no school .., 1 more if no nurse"
            + " .., 1 more if FUEL is LACKING; 1 less if none of these");
        for (int set = 0; set < 32; set++) {
            IslandOffice x = new IslandOffice();
            x.set(3, 99);
            x.person(-1500, 0, -1, 0);
            if ((set & 4) != 0) {
                x.person(-100, 5, 0, 0);
            }
            if ((set & 8) != 0) {
                x.person(-4000, 0, -1, 0);
            }
            x.house(0, (set & 2) != 0 ? 20 : 0, 3);
            x.store(0, (set & 1) != 0 ? 2 : 99);
            if ((set & 16) == 0) {
                x.store(1, 99);
            }
            x.weeks(1);
            int more = (set & 1) * 2 + (set >> 1 & 1) + (set >> 2 & 1) * 2 + (set >> 3 & 1) + (set >> 4 & 1);
            due("set " + set, x.about(0, 6), more);
            x.image();
            x.store(0, 99);
            x.store(1, 99);
            x.house(0, 0, 3);
            x.move(0, 8);
            for (int p = x.count(0) - 1; p > 0; p--) {
                x.death(p);
            }
            x.weeks(1);
            due("1 less, set " + set, x.about(0, 6), Math.max(0, more - 1));
            x.restore();
        }
    }

    private static void discontentRange() {
        Checks.says("DISCONTENT of each one here (0 .. 99)");
        IslandOffice x = new IslandOffice();
        x.person(-1500, 0, -1, 0);
        x.person(-1500, 5, -1, 0);
        Checks.law(x, "l:1=2");
        // HUNGRY and FUEL LACKING: 3 a week; the second has his TANK empty later.
        x.house(0, 20, 3);
        x.weeks(1);
        due("DRY, HUNGRY, cold", x.about(0, 6), 4);
        due("HUNGRY, cold", x.about(1, 6), 3);
        x.weeks(19);
        due("20 weeks of 3", x.about(1, 6), 60);
        x.weeks(4);
        due("24 weeks of 4", x.about(0, 6), 96);
        x.weeks(1);
        due("99 at most", x.about(0, 6), 99);
        x.weeks(20);
        due("99 at most", x.about(0, 6), 99);
        due("99 at most", x.about(1, 6), 99);
        x.store(0, 200);
        x.store(1, 20);
        rain(x, 9, 9, 9);
        x.move(0, 9);
        x.weeks(1);
        due("1 less", x.about(0, 6), 98);
        IslandOffice y = Checks.settled(1);
        y.person(-1500, 0, -1, 0);
        y.guest(-1500, 0, 0, 400);
        y.weeks(3);
        due("0 at least", y.about(0, 6) + y.about(1, 6), 0);
        IslandOffice z = new IslandOffice();
        z.person(-100, 0, -1, 0);
        z.guest(-1500, 0, 0, 400);
        z.person(-4000, 1, -1, 0);
        z.weeks(1);
        due("of a CHILD, too", z.about(0, 6), 3);
        due("of a GUEST, too", z.about(1, 6), 3);
        due("of an OLD one, too", z.about(2, 6), 4);
    }

    private static void mothersOfChildren() {
        Checks.says("one is MOTHER of a CHILD that is here");
        IslandOffice x = Checks.settled(1);
        x.person(-1500, 0, -1, 0);
        x.person(-16 * YEAR + 1, 7, 0, 0);
        x.person(-1500, 1, -1, 0);
        x.person(-16 * YEAR, 1, 2, 0);
        x.guest(-1500, 2, 0, 400);
        x.person(-100, 3, 4, 0);
        x.person(-100, 4, 5, 0);
        x.weeks(1);
        int[] want = {2, 0, 0, 0, 2, 2, 0};
        for (int p = 0; p < 7; p++) {
            due("DISCONTENT of " + p, x.about(p, 6), want[p]);
        }
        x.weeks(1);
        due("the child of 0 is 16", x.about(0, 6), 1);
        x.death(6);
        x.weeks(1);
        due("the child of 5 is gone", x.about(5, 6), 3);
        due("that of 4 is here", x.about(4, 6), 6);
        IslandOffice y = Checks.someAway();
        y.back(0);
        y.store(0, 99);
        y.store(1, 99);
        y.weeks(1);
        due("the child is away", y.about(0, 6), 0);
        y.back(1);
        y.weeks(1);
        due("the child is back", y.about(0, 6), 2);
        y.weeks(1);
        due("the child has none of these", y.about(1, 6), 0);
        IslandOffice z = Checks.settled(1);
        z.person(-1500, 0, -1, 0);
        z.person(-100, 0, 0, 0);
        z.person(-100, 0, 0, 0);
        z.weeks(1);
        due("two children count once", z.about(0, 6), 2);
    }

    private static void oldOnes() {
        Checks.says("an OLD one is here in the HOUSE (oneself, too)");
        IslandOffice x = Checks.settled(1);
        x.person(-65 * YEAR + 1, 0, -1, 0);
        x.person(-1500, 0, -1, 0);
        x.person(-65 * YEAR, 1, -1, 0);
        x.person(-1500, 1, -1, 0);
        x.guest(-5000, 2, 0, 400);
        x.person(-1500, 2, -1, 0);
        x.weeks(1);
        int[] want = {0, 0, 1, 1, 0, 0};
        for (int p = 0; p < 6; p++) {
            due("DISCONTENT of " + p, x.about(p, 6), want[p]);
        }
        x.person(-4000, 1, -1, 0);
        x.weeks(1);
        due("65 now", x.about(1, 6), 1);
        due("two OLD ones count once", x.about(3, 6), 2);
        x.death(2);
        x.move(6, 2);
        x.weeks(1);
        due("one gone, one moved", x.about(3, 6), 1);
        due("where that one is", x.about(5, 6), 1);
    }

    private static void fillsOfSorts() {
        Checks.says("if no school POST is FILLED; if no nurse POST is FILLED");
        for (int sort = 0; sort < 4; sort++) {
            IslandOffice x = Checks.settled(1);
            x.person(-1500, 0, -1, 0);
            x.person(-100, 0, 0, 0);
            x.person(-4000, 0, -1, 0);
            x.person(-1500, 5, -1, 1);
            x.post(1, 1, sort);
            x.post(0, 1, sort);
            x.weeks(1);
            due("the second of SORT " + sort, x.about(0, 6), sort == 1 ? 1 : sort == 2 ? 2 : 3);
            x.open(1, false);
            x.weeks(1);
            due("closed", x.about(0, 6), sort == 1 ? 4 : sort == 2 ? 5 : 6);
        }
    }

    private static void monthEnds() {
        Checks.says("10 In the last week of a MONTH");
        IslandOffice x = Checks.settled(1);
        x.person(-4000, 0, -1, 0);
        x.earn(1000);
        int paid = 0;
        for (int w = 0; w < 13; w++) {
            x.weeks(1);
            paid += w % 4 == 3 ? 7 : 0;
            due("behind week " + w, x.count(8), 1000 - paid);
            due("record", x.record(w, 3), 1000 - paid);
        }
        due("THE FUND", x.count(9), 15);
    }

    /** A hand 0, a guest 1 and a hand 2 with POSTS (3, 6, 3); old ones 3 and 4 (2, 2); THE WEEK is 3. */
    private static IslandOffice paid(int purse, int order) {
        IslandOffice x = Checks.settled(1);
        x.person(-1500, 0, -1, 1);
        x.guest(-1500, 0, 1, 400);
        x.person(-1500, 0, -1, 1);
        x.person(-4000, 0, -1, 0);
        x.person(-4000, 0, -1, 255);
        x.post(0, 3, 0);
        x.weeks(3);
        if (purse > 0) {
            x.earn(purse);
        }
        x.pays(order);
        x.weeks(1);
        return x;
    }

    private static void paid(int purse, int order, int left, int unpaid, int fund) {
        IslandOffice x = paid(purse, order);
        String call = purse + " in the order " + order;
        due(call + ": THE PURSE", x.count(8), left);
        due(call + ": UNPAID", x.count(10), unpaid);
        due(call + ": THE FUND", x.count(9), fund);
    }

    private static void payments() {
        Checks.says("WAGES and pensions one by one by numbers, each if there is enough (else UNPAID is one more)");
        paid(0, 21, 0, 5, 0);
        paid(1, 21, 1, 5, 0);
        paid(2, 21, 0, 4, 0);
        paid(3, 21, 0, 4, 0);
        // What isn't enough for the guest is enough for the hand behind it.
        paid(5, 21, 0, 3, 0);
        paid(6, 21, 0, 3, 0);
        paid(8, 21, 0, 2, 0);
        paid(9, 21, 0, 3, 0);
        paid(12, 21, 0, 2, 0);
        paid(13, 21, 1, 2, 0);
        paid(14, 21, 0, 1, 0);
        paid(15, 21, 1, 1, 0);
        paid(16, 21, 0, 0, 0);
        paid(20, 21, 4, 0, 0);
        paid(21, 21, 0, 0, 5);
        Checks.says("THE ORDER (0 WAGES of those who hold POSTS, 1 pensions of OLD ones, 2: 5 to THE FUND)");
        int wagesFundPensions = 0 + 3 * 2 + 9 * 1;
        int pensionsWagesFund = 1 + 3 * 0 + 9 * 2;
        int pensionsFundWages = 1 + 3 * 2 + 9 * 0;
        int fundWagesPensions = 2 + 3 * 0 + 9 * 1;
        int fundPensionsWages = 2 + 3 * 1 + 9 * 0;
        paid(17, wagesFundPensions, 0, 2, 5);
        paid(17, pensionsWagesFund, 1, 0, 0);
        paid(9, pensionsFundWages, 0, 3, 5);
        paid(8, pensionsFundWages, 1, 2, 0);
        paid(9, fundWagesPensions, 1, 4, 5);
        paid(9, fundPensionsWages, 0, 3, 5);
    }

    private static void fund() {
        Checks.says("2: 5 to THE FUND, if there is as much, else nothing");
        for (int purse = 1; purse <= 11; purse++) {
            IslandOffice x = new IslandOffice();
            x.earn(purse);
            x.weeks(4);
            due(purse + ": THE PURSE", x.count(8), purse < 5 ? purse : purse - 5);
            due(purse + ": THE FUND", x.count(9), purse < 5 ? 0 : 5);
            due(purse + ": UNPAID", x.count(10), 0);
        }
        IslandOffice y = new IslandOffice();
        y.weeks(4);
        due("nothing", y.count(8) + y.count(9) + y.count(10), 0);
        y.earn(500);
        for (int i = 0; i < 7; i++) {
            y.weeks(52);
        }
        due("91 MONTHS", y.count(9), 455);
        due("THE PURSE", y.count(8), 45);
        y.weeks(32);
        due("99 MONTHS", y.count(9), 495);
        due("THE PURSE", y.count(8), 5);
    }

    private static void purseMax() {
        Checks.says("THE PURSE has 1000000 at most (what would be above is lost)");
        int[] there = {999984, 999985, 999986, 1000000};
        int[] then = {999999, 1000000, 1000000, 1000000};
        for (int k = 0; k < there.length; k++) {
            IslandOffice x = Checks.someAway();
            x.death(3);
            for (int i = 0; i < 100; i++) {
                x.earn(Math.min(10000, Math.max(1, there[k] - x.count(8))));
            }
            due("there", x.count(8), there[k]);
            x.weeks(3);
            due("15 come to " + there[k] + ", 5 go", x.count(8), then[k] - 5);
        }
    }

    private static void sends() {
        Checks.says("each AWAY one sends 5 to THE PURSE");
        IslandOffice x = Checks.someAway();
        x.death(3);
        x.weeks(3);
        due("three away, 5 for THE FUND", x.count(8), 10);
        x.back(1);
        x.store(0, 99);
        x.weeks(4);
        due("two away", x.count(8), 15);
        x.death(0);
        x.weeks(4);
        due("one away, one gone", x.count(8), 15);
        x.death(2);
        x.weeks(4);
        due("none", x.count(8), 10);
        Checks.says("10 ahead of 11: who goes away in that week sends nothing yet");
        IslandOffice y = new IslandOffice();
        y.person(-1500, 0, -1, 0);
        Checks.rowOf(y, 6, 0, 0, 0, 0, 0, 99, 99, 99, 0);
        y.weather(6, false);
        y.weeks(8);
        due("away in week 7", y.about(0, 5), 1);
        due("THE PURSE", y.count(8), 0);
        y.weeks(4);
        due("THE PURSE, 5 for THE FUND", y.count(8) * 10 + y.count(9), 5);
        Checks.says("what is sent is paid in the same week");
        IslandOffice z = Checks.someAway();
        z.death(0);
        z.death(1);
        z.weeks(3);
        due("5 sent, 2 for the OLD one, 3 left", z.count(8), 3);
        due("UNPAID was one in the MONTH before", z.count(10), 1);
    }

    private static void leaves() {
        Checks.says("11 In a week in which THE SHIP LANDED: DISCONTENT of LIMIT or more");
        for (int limit = 13; limit <= 17; limit++) {
            IslandOffice x = new IslandOffice();
            x.person(-1500, 0, -1, 0);
            x.set(3, limit);
            x.weeks(4);
            due("DISCONTENT in week 3", x.about(0, 6), 12);
            due("HEADS", x.weeks(1), limit <= 15 ? 0 : 1);
            due("DISCONTENT is 0 then", x.about(0, 6), limit <= 15 ? 0 : 15);
        }
        IslandOffice y = new IslandOffice();
        y.person(-1500, 0, -1, 0);
        y.set(3, 1);
        Checks.rowOf(y, 6, 0, 0, 0, 0, 0, 99, 99, 0, 0);
        y.weather(6, false);
        due("no ship in weeks 0 .. 3", y.weeks(4), 1);
        due("nor in 4, 5", y.weeks(2), 1);
        due("it LANDED in 6", y.weeks(1), 0);
        due("away", y.count(2), 1);
        due("back", y.back(0), 28);
        due("not in 7", y.weeks(1), 1);
        due("in 8", y.weeks(1), 0);
    }

    private static void whoLeaves() {
        Checks.says("who is here, no CHILD, no OLD one, no GUEST, and for whom l's LAW holds");
        int[] births = {-16 * YEAR + 4, -16 * YEAR + 5, -65 * YEAR + 4, -65 * YEAR + 5, -1500};
        int[] away = {1, 0, 0, 1, 1};
        IslandOffice x = new IslandOffice();
        for (int i = 0; i < 5; i++) {
            x.person(births[i], i, -1, i % 2);
        }
        x.guest(-1500, 6, 0, 400);
        x.set(3, 1);
        x.weeks(5);
        for (int p = 0; p < 5; p++) {
            due("born in " + births[p], x.about(p, 5), away[p]);
        }
        due("a guest", x.about(5, 5), 0);
        IslandOffice y = new IslandOffice();
        y.person(-1500, 0, -1, 0);
        y.person(-1500, 0, -1, 1);
        y.set(3, 1);
        Checks.law(y, "l:k=2");
        y.weeks(5);
        due("not by the law", y.about(0, 5), 0);
        due("by the law", y.about(1, 5), 1);
        y.repeal(0);
        y.weeks(4);
        due("without one all", y.count(2), 2);
        IslandOffice z = new IslandOffice();
        z.person(-1500, 0, -1, 0);
        Checks.law(z, "l:d>14");
        z.weeks(5);
        due("DISCONTENT as it is behind 9", z.about(0, 5), 1);
    }

    private static void oneBehindTheOther() {
        Checks.says("goes away, by numbers (one behind the other)");
        for (int stay = 0; stay <= 4; stay++) {
            IslandOffice x = new IslandOffice();
            for (int p = 0; p < 4; p++) {
                x.person(-1500, 0, -1, 0);
            }
            x.set(3, 1);
            Checks.law(x, "l:h>" + stay);
            due("HEADS", x.weeks(5), stay);
            for (int p = 0; p < 4; p++) {
                due(p + " of h>" + stay, x.about(p, 5), p < 4 - stay ? 1 : 0);
            }
        }
        IslandOffice y = new IslandOffice();
        y.person(-1500, 0, -1, 0);
        y.person(-1500, 0, -1, 0);
        y.person(-100, 0, 0, 0);
        y.set(3, 1);
        Checks.law(y, "l:h>1");
        y.weeks(5);
        due("a child went with the first, so the second stays", y.about(1, 5), 0);
        due("the first", y.about(0, 5), 1);
        due("the child", y.about(2, 5), 1);
    }

    private static void childrenLeave() {
        Checks.says("and all CHILDREN here whose MOTHER that is (DISCONTENT is 0 then)");
        IslandOffice x = new IslandOffice();
        x.person(-100, 3, -1, 0);
        x.person(-1500, 0, -1, 0);
        x.person(-100, 4, 1, 0);
        x.person(-16 * YEAR + 5, 5, 1, 0);
        x.person(-16 * YEAR + 4, 6, 1, 0);
        x.person(-100, 7, 2, 0);
        x.person(-100, 8, 1, 0);
        Checks.law(x, "l:s=0&a>20");
        x.death(6);
        x.set(3, 1);
        x.weeks(5);
        int[] state = {0, 1, 1, 1, 0, 0, 2};
        for (int p = 0; p < 7; p++) {
            due("STATE of " + p, x.about(p, 5), state[p]);
        }
        due("DISCONTENT of the mother", x.about(1, 6), 0);
        due("DISCONTENT of her child", x.about(2, 6), 0);
        due("of one of 15", x.about(3, 6), 0);
        due("of one of 16, who stays by the law", x.about(4, 6), 15);
        due("of another child", x.about(0, 6), 15);
        due("of the child's child", x.about(5, 6), 15);
        IslandOffice y = new IslandOffice();
        y.guest(-1500, 0, 0, 400);
        y.person(-100, 0, 0, 0);
        y.person(-4000, 0, -1, 0);
        y.person(-100, 0, 2, 0);
        y.set(3, 1);
        due("children of those that stay", y.weeks(5), 4);
    }

    private static void recordRefusals() {
        Checks.says("THE RECORD of a week that went by: 0 .. 4. -1; -3: it didn't");
        IslandOffice x = Checks.inWeek(3);
        due("week -1", x.record(-1, 0), -1);
        due("week 401", x.record(401, 0), -1);
        due("what -1", x.record(0, -1), -1);
        due("what 5", x.record(0, 5), -1);
        due("week 0", x.record(0, 0), 0);
        due("week 2", x.record(2, 4), 0);
        due("week 3", x.record(3, 0), -3);
        due("week 400", x.record(400, 0), -3);
        due("week 400, what 5", x.record(400, 5), -1);
    }

    private static void recordParts() {
        Checks.says("12 THE RECORD: HEADS, those away, FOOD, THE PURSE, POSTS FILLED of this week, as they are now");
        IslandOffice x = new IslandOffice();
        x.person(-1500, 0, -1, 1);
        x.person(-1500, 0, -1, 0);
        x.person(-4000, 0, -1, 0);
        x.person(-100, 0, 1, 0);
        x.guest(-1500, 0, 0, 4);
        x.post(0, 1, 3);
        x.post(1, 1, 0);
        x.store(0, 60);
        x.earn(50);
        x.set(3, 5);
        x.weeks(5);
        // NEED 4 + 3 + 2 + 2 + 4 less 10 of fish a week; 60 - 5 .. 40; in week 4 without the guest 41 + 10 - 11 ..
        int[] week0 = {5, 0, 55, 50, 1};
        int[] week3 = {5, 0, 40, 40, 1};
        int[] week4 = {2, 2, 39, 40, 1};
        for (int what = 0; what < 5; what++) {
            due("week 0: " + what, x.record(0, what), week0[what]);
            due("week 3: " + what, x.record(3, what), week3[what]);
        }
        due("week 4: the mother and her child went away", x.record(4, 0), x.count(1));
        due("away", x.record(4, 1), x.count(2));
        due("FOOD", x.record(4, 2), week4[2]);
        due("POSTS FILLED, though who held it went away", x.record(4, 4), week4[4]);
        due("away", x.about(0, 5) + x.about(1, 5) + x.about(3, 5), 3);
        x.store(0, 1);
        x.earn(1);
        x.open(0, false);
        x.death(2);
        due("as it was", x.record(4, 2) + x.record(4, 3) + x.record(4, 4), 39 + 40 + 1);
    }
}
