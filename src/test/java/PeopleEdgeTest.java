/** Term 1 and promises 1 to 11: each sentence that names an edge. */
public final class PeopleEdgeTest {
    private static final int YEAR = 52;

    public static void main(String[] args) {
        weeks();
        atFirst();
        ages();
        houses();
        numbers();
        births();
        mothers();
        skills();
        ends();
        kindsByAge();
        kindsInOrder();
        heads();
        needs();
        wages();
        newborns();
        deaths();
        backs();
        learning();
        moves();
        housesSet();
        whats();
        postsOfLastWeek();
        hungryOfLastWeek();
        dryOfLastWeek();
        Checks.end();
    }

    private static void due(String call, long got, long want) {
        Checks.due(call, got, want);
    }

    private static void weeks() {
        Checks.says("WEEKS are 0 .. 400");
        IslandOffice x = new IslandOffice();
        int[] weeks = {Checks.LOW, -1, 0, 400, 401, Checks.HIGH};
        for (int w : weeks) {
            boolean is = w >= 0 && w <= 400;
            due("force(0, " + w + ")", x.force(0, w), is ? -2 : -1);
            due("sky(" + w + ", false)", x.sky(w, false), is ? 0 : -1);
            due("sky(" + w + ", true)", x.sky(w, true), is ? 0 : -1);
            due("record(" + w + ", 0)", x.record(w, 0), is ? -3 : -1);
        }
        IslandOffice y = Checks.inWeek(399);
        due("week 399", y.count(7), 399);
        due("the last week goes by", y.weeks(1), 0);
        due("week 400", y.count(7), 400);
        due("record(399, 0)", y.record(399, 0), 0);
        due("record(400, 0)", y.record(400, 0), -3);
    }

    private static void atFirst() {
        Checks.says("CATTLE (0 at first), a TANK (20 at first), a ROOF (3 at first); HOUSES 0 .. 11 (all are there)");
        IslandOffice x = new IslandOffice();
        for (int h = 0; h < 12; h++) {
            due("heads", x.home(h, 0), 0);
            due("cattle", x.home(h, 1), 0);
            due("tank", x.home(h, 2), 20);
            due("roof", x.home(h, 3), 3);
            due("dry", x.home(h, 4), 0);
        }
        Checks.says("Nobody; GRASS 100, THE PURSE and THE FUND 0; THE ORDER 0, 1, 2; THE WEEK is 0 at first");
        int[] counts = {0, 0, 0, 0, 0, 0, 0, 0, 0, 0, 0, 100, 0, 0, -2};
        for (int what = 0; what < counts.length; what++) {
            due("count(" + what + ")", x.count(what), counts[what]);
        }
        due("THE ORDER", x.pays(0 + 3 * 1 + 9 * 2), 0);
    }

    private static void ages() {
        Checks.says("AGE: (THE WEEK less BIRTH) / 52, cut");
        IslandOffice x = new IslandOffice();
        int[] births = {0, -1, -51, -52, -103, -104, -5000};
        int[] ages = {0, 0, 0, 1, 1, 2, 96};
        int[] next = {0, 0, 1, 1, 2, 2, 96};
        for (int p = 0; p < births.length; p++) {
            due("person", x.person(births[p], p, -1, 0), p);
            due("age of one born in " + births[p], x.about(p, 1), ages[p]);
        }
        x.weeks(1);
        for (int p = 0; p < births.length; p++) {
            due("age of one born in " + births[p] + " in week 1", x.about(p, 1), next[p]);
        }
        IslandOffice y = Checks.inWeek(400);
        y.person(-5000, 0, -1, 0);
        y.person(400, 0, -1, 0);
        y.person(349, 0, -1, 0);
        y.person(348, 0, -1, 0);
        due("5400 weeks", y.about(0, 1), 103);
        due("0 weeks", y.about(1, 1), 0);
        due("51 weeks", y.about(2, 1), 0);
        due("52 weeks", y.about(3, 1), 1);
    }

    private static void houses() {
        Checks.says("HOUSES 0 .. 11");
        IslandOffice x = new IslandOffice();
        x.person(-1500, 0, -1, 0);
        int[] houses = {Checks.LOW, -1, 12, Checks.HIGH};
        for (int h : houses) {
            due("person in " + h, x.person(-1500, h, -1, 0), -1);
            due("guest in " + h, x.guest(-1500, h, 0, 9), -1);
            due("move to " + h, x.move(0, h), -1);
            due("house " + h, x.house(h, 1, 3), -1);
            due("home " + h, x.home(h, 1), -1);
        }
        due("person in 11", x.person(-1500, 11, -1, 0), 1);
        due("guest in 11", x.guest(-1500, 11, 0, 9), 2);
        due("guest in 0", x.guest(-1500, 0, 0, 9), 3);
        due("move to 11", x.move(0, 11), 0);
        due("move to 0", x.move(0, 0), 11);
        due("house 11", x.house(11, 1, 3), 1);
        due("house 0", x.house(0, 1, 3), 1);
        due("heads of 11", x.home(11, 0), 2);
        due("heads of 0", x.home(0, 0), 2);
    }

    private static void numbers() {
        Checks.says("PEOPLE 0 .. 39 as they come; -2: there are 40");
        IslandOffice x = new IslandOffice();
        for (int p = 0; p < 38; p++) {
            due("person", x.person(-1500, 0, -1, 0), p);
        }
        due("guest", x.guest(-1500, 0, 0, 9), 38);
        Checks.due("count", x.count(0), 39);
        due("the last one", x.birth(0), 39);
        due("person", x.person(-1500, 0, -1, 0), -2);
        due("guest", x.guest(-1500, 0, 0, 9), -2);
        due("birth", x.birth(0), -2);
        due("about 39", x.about(39, 0), 1);
        due("about 40", x.about(40, 0), -1);
        due("count", x.count(0), 40);
        x.death(5);
        due("those gone keep their numbers", x.person(-1500, 0, -1, 0), -2);
    }

    private static void births() {
        Checks.says("a BIRTH (a week, -5000 .. 400, THE WEEK at most as they come)");
        IslandOffice x = new IslandOffice();
        due("person -5001", x.person(-5001, 0, -1, 0), -1);
        due("person 1", x.person(1, 0, -1, 0), -1);
        due("guest -5001", x.guest(-5001, 0, 0, 9), -1);
        due("guest 1", x.guest(1, 0, 0, 9), -1);
        due("person -5000", x.person(-5000, 0, -1, 0), 0);
        due("person 0", x.person(0, 0, -1, 0), 1);
        due("guest -5000", x.guest(-5000, 0, 0, 9), 2);
        due("guest 0", x.guest(0, 0, 0, 9), 3);
        x.weeks(2);
        due("person 3", x.person(3, 0, -1, 0), -1);
        due("guest 3", x.guest(3, 0, 0, 9), -1);
        due("person 2", x.person(2, 0, -1, 0), 4);
        due("guest 2", x.guest(2, 0, 0, 9), 5);
        IslandOffice y = Checks.inWeek(400);
        due("person 401", y.person(401, 0, -1, 0), -1);
        due("guest 401", y.guest(401, 0, 0, 400), -1);
        due("person 400", y.person(400, 0, -1, 0), 0);
        due("guest 400", y.guest(400, 0, 0, 400), 1);
    }

    private static void mothers() {
        Checks.says("a MOTHER (an earlier one, or none); mother -1: none");
        IslandOffice x = new IslandOffice();
        due("nobody is there", x.person(-1500, 0, 0, 0), -1);
        due("none", x.person(-1500, 0, -1, 0), 0);
        due("oneself", x.person(-1500, 0, 1, 0), -1);
        due("-2", x.person(-1500, 0, -2, 0), -1);
        due("wild", x.person(-1500, 0, Checks.HIGH, 0), -1);
        due("the one before", x.person(-100, 0, 0, 0), 1);
        due("mother of 0", x.about(0, 3), -2);
        due("mother of 1", x.about(1, 3), 0);
        due("guest", x.guest(-1500, 0, 0, 9), 2);
        due("a guest has none", x.about(2, 3), -2);
        due("of a guest", x.person(-100, 0, 2, 0), 3);
        x.death(0);
        due("of one gone", x.person(-100, 0, 0, 0), 4);
        due("of a younger one", x.person(-5000, 0, 3, 0), 5);
    }

    private static void skills() {
        Checks.says("SKILLS (bits 0 .. 7)");
        IslandOffice x = new IslandOffice();
        due("person -1", x.person(-1500, 0, -1, -1), -1);
        due("person 256", x.person(-1500, 0, -1, 256), -1);
        due("guest -1", x.guest(-1500, 0, -1, 9), -1);
        due("guest 256", x.guest(-1500, 0, 256, 9), -1);
        due("person 255", x.person(-1500, 0, -1, 255), 0);
        due("person 0", x.person(-1500, 0, -1, 0), 1);
        due("guest 255", x.guest(-1500, 0, 255, 9), 2);
        due("guest 0", x.guest(-1500, 0, 0, 9), 3);
        int[] want = {255, 0, 255, 0};
        for (int p = 0; p < 4; p++) {
            due("skills", x.about(p, 4), want[p]);
        }
    }

    private static void ends() {
        Checks.says("A guest comes with an END (THE WEEK .. 400)");
        IslandOffice x = new IslandOffice();
        due("end -1", x.guest(-1500, 0, 0, -1), -1);
        due("end 401", x.guest(-1500, 0, 0, 401), -1);
        due("end 0", x.guest(-1500, 0, 0, 0), 0);
        due("end 400", x.guest(-1500, 0, 0, 400), 1);
        due("KIND of a guest of END 0", x.about(0, 0), 5);
        due("NEED", x.about(0, 8), 4);
        due("no VOTERS", x.count(12), 0);
        due("no mother", x.birth(0), -3);
        x.weeks(3);
        due("end 2", x.guest(-1500, 0, 0, 2), -1);
        due("end 3", x.guest(-1500, 0, 0, 3), 2);
        due("end 4", x.guest(-1500, 0, 0, 4), 3);
        Checks.says("1 Guests whose END is w or earlier are gone");
        due("guest of week 0", x.about(0, 5), 2);
        due("still here in week 3", x.about(2, 5), 0);
        x.weeks(1);
        due("the END is w", x.about(2, 5), 2);
        due("the END is behind w", x.about(3, 5), 0);
        x.weeks(1);
        due("then that one", x.about(3, 5), 2);
        due("END 400 stays", x.about(1, 5), 0);
        due("gone", x.count(3), 3);
        IslandOffice y = Checks.inWeek(400);
        due("end 399", y.guest(-1500, 0, 0, 399), -1);
        due("end 400", y.guest(-1500, 0, 0, 400), 0);
    }

    private static void kindsByAge() {
        Checks.says("1 CHILD under PERSON: AGE below 16. 4 OLD under PERSON: AGE 65 and more");
        IslandOffice x = new IslandOffice();
        int[] births = {-16 * YEAR + 1, -16 * YEAR, -65 * YEAR + 1, -65 * YEAR};
        int[] plain = {1, 0, 0, 4};
        int[] skilled = {1, 2, 2, 4};
        int[] plainNext = {0, 0, 4, 4};
        int[] skilledNext = {2, 2, 4, 4};
        for (int i = 0; i < 4; i++) {
            x.person(births[i], 0, -1, 0);
            x.person(births[i], 0, -1, 128);
        }
        for (int i = 0; i < 4; i++) {
            due("born in " + births[i], x.about(2 * i, 0), plain[i]);
            due("born in " + births[i] + ", skilled", x.about(2 * i + 1, 0), skilled[i]);
        }
        x.weeks(1);
        for (int i = 0; i < 4; i++) {
            due("born in " + births[i] + ", in week 1", x.about(2 * i, 0), plainNext[i]);
            due("born in " + births[i] + ", skilled, in week 1", x.about(2 * i + 1, 0), skilledNext[i]);
        }
    }

    private static void kindsInOrder() {
        Checks.says("The first that fits, in this order: AWAY, GUEST, CHILD, OLD, HAND, PERSON");
        IslandOffice x = new IslandOffice();
        x.guest(0, 0, 0, 9);
        x.guest(-5000, 0, 0, 9);
        x.guest(-1500, 0, 255, 9);
        x.guest(-1500, 0, 0, 9);
        for (int p = 0; p < 4; p++) {
            due("a guest", x.about(p, 0), 5);
        }
        IslandOffice y = Checks.someAway();
        due("a mother away", y.about(0, 0), 3);
        due("a child away", y.about(1, 0), 3);
        due("a hand away", y.about(2, 0), 3);
        due("an old one here", y.about(3, 0), 4);
        y.back(0);
        y.back(1);
        y.back(2);
        due("a person", y.about(0, 0), 0);
        due("a child", y.about(1, 0), 1);
        due("a hand", y.about(2, 0), 2);
        IslandOffice z = new IslandOffice();
        z.person(-65 * YEAR + 6, 0, -1, 0);
        z.set(3, 1);
        z.weeks(5);
        due("away at 64", z.about(0, 1) * 10 + z.about(0, 0), 643);
        z.weeks(1);
        due("away at 65", z.about(0, 1) * 10 + z.about(0, 0), 653);
        due("back", z.back(0), 65);
        due("old then", z.about(0, 0), 4);
        Checks.says("who is gone has none (-2)");
        for (int p = 0; p < 4; p++) {
            x.death(p);
            due("a guest gone", x.about(p, 0), -2);
        }
        y.death(3);
        due("an old one gone", y.about(3, 0), -2);
        y.death(1);
        due("a child gone", y.about(1, 0), -2);
        y.death(2);
        due("a hand gone", y.about(2, 0), -2);
    }

    private static void heads() {
        Checks.says("HEADS: those that are here");
        IslandOffice x = Checks.someAway();
        due("heads", x.count(1), 1);
        due("heads of 0", x.home(0, 0), 0);
        due("heads of 2", x.home(2, 0), 1);
        x.guest(-1500, 2, 0, 400);
        due("a guest, too", x.home(2, 0), 2);
        due("heads", x.count(1), 2);
        x.death(3);
        due("not who is gone", x.home(2, 0), 1);
        due("heads", x.count(1), 1);
        x.back(0);
        due("who is back", x.home(0, 0), 1);
        due("away", x.count(2), 2);
        due("gone", x.count(3), 1);
        due("people", x.count(0), 5);
    }

    private static void needs() {
        Checks.says("NEED: PERSON 3; CHILD, OLD 1 less; HAND 3, and 1 if one holds a POST; GUEST 1 more than a HAND; AWAY 0");
        IslandOffice x = Checks.settled(1);
        x.person(-1500, 0, -1, 0);
        x.person(-100, 1, -1, 1);
        x.person(-4000, 2, -1, 1);
        x.person(-1500, 3, -1, 1);
        x.guest(-1500, 4, 2, 400);
        int[] without = {3, 2, 2, 3, 4};
        int[] with = {3, 2, 2, 4, 5};
        for (int p = 0; p < 5; p++) {
            due("without a post", x.about(p, 8), without[p]);
        }
        due("all NEED", x.count(13), 14);
        x.post(0, 1, 0);
        x.post(1, 1, 0);
        due("not before a week goes by", x.count(13), 14);
        x.weeks(1);
        for (int p = 0; p < 5; p++) {
            due("with a post", x.about(p, 8), with[p]);
        }
        due("all NEED", x.count(13), 16);
        due("and so much was eaten", x.record(0, 2), 1000 - 16);
        x.open(0, false);
        due("with that POST, though closed", x.about(3, 8), 4);
        x.weeks(1);
        due("without one", x.about(3, 8), 3);
        x.death(4);
        due("gone: 0", x.about(4, 8), 0);
        due("all NEED", x.count(13), 10);
        IslandOffice y = Checks.someAway();
        due("away", y.about(0, 8) + y.about(1, 8) + y.about(2, 8), 0);
        due("all NEED", y.count(13), 2);
    }

    private static void wages() {
        Checks.says("WAGE: PERSON 0; HAND 3 for a POST; GUEST twice that of a HAND; OLD 2 (a pension), whatever else");
        IslandOffice x = Checks.settled(1);
        x.person(-1500, 0, -1, 0);
        x.person(-100, 1, -1, 1);
        x.person(-4000, 2, -1, 0);
        x.person(-4000, 2, -1, 255);
        x.person(-1500, 3, -1, 1);
        x.guest(-1500, 4, 2, 400);
        int[] without = {0, 0, 2, 2, 0, 0};
        int[] with = {0, 0, 2, 2, 3, 6};
        for (int p = 0; p < 6; p++) {
            due("without a post", x.about(p, 9), without[p]);
        }
        x.post(0, 1, 0);
        x.post(1, 1, 0);
        x.weeks(1);
        for (int p = 0; p < 6; p++) {
            due("with a post", x.about(p, 9), with[p]);
        }
        x.death(5);
        x.death(2);
        due("gone: 0", x.about(5, 9), 0);
        due("gone: 0", x.about(2, 9), 0);
        IslandOffice y = new IslandOffice();
        y.person(-65 * YEAR + 1, 0, -1, 1);
        y.post(0, 1, 0);
        y.weeks(1);
        due("old, with the POST of the week before", 100 * y.about(0, 7) + 10 * y.about(0, 0) + y.about(0, 9), 42);
        IslandOffice z = new IslandOffice();
        z.person(-1500, 0, -1, 1);
        z.post(0, 1, 0);
        z.set(3, 1);
        z.weeks(5);
        due("away, with the POST of that week", 100 * z.about(0, 7) + 10 * z.about(0, 0) + z.about(0, 9), 30);
        due("and NEED 0", z.about(0, 8), 0);
    }

    private static void newborns() {
        Checks.says("-3: who isn't here, or is a CHILD, an OLD one, a GUEST");
        IslandOffice x = Checks.someAway();
        int[] births = {5 - 16 * YEAR + 1, 5 - 16 * YEAR, 5 - 65 * YEAR + 1, 5 - 65 * YEAR};
        for (int i = 0; i < 4; i++) {
            due("person", x.person(births[i], 6 + i, -1, 0), 4 + i);
        }
        due("guest", x.guest(-1500, 0, 0, 400), 8);
        due("of one away", x.birth(0), -3);
        due("of a child away", x.birth(1), -3);
        due("at 15", x.birth(4), -3);
        due("at 65", x.birth(7), -3);
        due("a guest", x.birth(8), -3);
        due("-1", x.birth(-1), -1);
        due("no such", x.birth(9), -1);
        Checks.says("A CHILD of one here is born in THE WEEK, in the same HOUSE: its number");
        due("at 16", x.birth(5), 9);
        due("at 64", x.birth(6), 10);
        int[] want = {1, 0, 8, 6, 0, 0, 0, -2, 2, 0, 0};
        for (int what = 0; what < want.length; what++) {
            due("about(10, " + what + ")", x.about(10, what), want[what]);
        }
        due("house", x.about(9, 2), 7);
        due("of a newborn", x.birth(9), -3);
        x.skill(5, 7, true);
        due("of a HAND", x.birth(5), 11);
        due("without her SKILLS", x.about(11, 4), 0);
        x.weeks(51);
        due("51 weeks later", x.about(9, 1), 0);
        x.weeks(1);
        due("52 weeks later", x.about(9, 1), 1);
        IslandOffice y = new IslandOffice();
        y.person(-1500, 0, -1, 0);
        y.death(0);
        due("of one gone", y.birth(0), -3);
    }

    private static void deaths() {
        Checks.says("One dies: AGE. -1; -3: gone already");
        IslandOffice x = new IslandOffice();
        x.person(-51, 0, -1, 0);
        x.person(-52, 0, -1, 0);
        x.guest(-5000, 0, 0, 0);
        x.guest(-5000, 0, 0, 1);
        due("-1", x.death(-1), -1);
        due("4", x.death(4), -1);
        x.weeks(1);
        due("a guest that left", x.death(2), -3);
        due("a guest here", x.death(3), 96);
        due("52 weeks", x.death(0), 1);
        due("53 weeks", x.death(1), 1);
        due("gone already", x.death(0), -3);
        due("gone", x.count(3), 4);
        IslandOffice y = Checks.someAway();
        due("a child away", y.death(1), 10);
        due("gone already", y.death(1), -3);
        due("away", y.count(2), 2);
    }

    private static void backs() {
        Checks.says("One who is away comes back (DISCONTENT 0): AGE. -1; -3: isn't away");
        IslandOffice x = Checks.someAway();
        due("-1", x.back(-1), -1);
        due("4", x.back(4), -1);
        due("here", x.back(3), -3);
        due("back", x.back(1), 10);
        due("here now", x.back(1), -3);
        due("discontent", x.about(1, 6), 0);
        due("state", x.about(1, 5), 0);
        x.death(2);
        due("gone while away", x.back(2), -3);
        x.death(1);
        due("gone while here", x.back(1), -3);
        x.weeks(30);
        due("no discontent away", x.about(0, 6), 0);
        due("back", x.back(0), 40);
        due("discontent", x.about(0, 6), 0);
    }

    private static void learning() {
        Checks.says("A SKILL 0 .. 7 is learnt, or forgotten: 1 if that was otherwise, else 0. -1; -3: gone");
        IslandOffice x = Checks.someAway();
        due("skill -1", x.skill(3, -1, true), -1);
        due("skill 8", x.skill(3, 8, true), -1);
        due("skill 32", x.skill(3, 32, true), -1);
        due("person -1", x.skill(-1, 0, true), -1);
        due("person 4", x.skill(4, 0, true), -1);
        due("forgotten already", x.skill(3, 0, false), 0);
        due("skill 0", x.skill(3, 0, true), 1);
        due("skill 7", x.skill(3, 7, true), 1);
        due("learnt already", x.skill(3, 7, true), 0);
        due("skills", x.about(3, 4), 129);
        due("forgotten", x.skill(3, 0, false), 1);
        due("skills", x.about(3, 4), 128);
        due("of one away", x.skill(0, 3, true), 1);
        due("of a child away", x.skill(1, 3, true), 1);
        x.death(3);
        due("gone", x.skill(3, 7, false), -3);
        due("gone, otherwise", x.skill(3, 7, true), -3);
        due("skills", x.about(3, 4), 128);
        Checks.says("2 HAND under PERSON: with any SKILL");
        for (int skill = 0; skill < 8; skill++) {
            IslandOffice y = new IslandOffice();
            y.person(-1500, 0, -1, 0);
            due("person", y.about(0, 0), 0);
            y.skill(0, skill, true);
            due("hand of skill " + skill, y.about(0, 0), 2);
            y.skill(0, skill, false);
            due("person again", y.about(0, 0), 0);
        }
    }

    private static void moves() {
        Checks.says("One here moves to a HOUSE: the one before. -1; -3");
        IslandOffice x = Checks.someAway();
        due("-1", x.move(-1, 0), -1);
        due("4", x.move(4, 0), -1);
        due("moved", x.move(3, 11), 2);
        due("where one is", x.move(3, 11), 11);
        due("away", x.move(0, 5), -3);
        due("house of one away", x.about(0, 2), 0);
        x.death(3);
        due("gone", x.move(3, 5), -3);
        due("house of one gone", x.about(3, 2), 11);
        x.guest(-1500, 3, 0, 400);
        due("a guest", x.move(4, 0), 3);
    }

    private static void housesSet() {
        Checks.says("CATTLE (0 .. 20) and ROOF (1 .. 9) of a HOUSE: 1 if either was another, else 0. -1");
        IslandOffice x = new IslandOffice();
        due("cattle -1", x.house(0, -1, 3), -1);
        due("cattle 21", x.house(0, 21, 3), -1);
        due("roof 0", x.house(0, 0, 0), -1);
        due("roof 10", x.house(0, 0, 10), -1);
        due("as it was", x.house(0, 0, 3), 0);
        due("cattle 20", x.house(0, 20, 3), 1);
        due("cattle", x.home(0, 1), 20);
        due("roof 9", x.house(0, 20, 9), 1);
        due("roof", x.home(0, 3), 9);
        due("as it was", x.house(0, 20, 9), 0);
        due("cattle 0, roof 1", x.house(0, 0, 1), 1);
        due("cattle", x.home(0, 1), 0);
        due("roof", x.home(0, 3), 1);
        due("the tank stays", x.home(0, 2), 20);
    }

    private static void whats() {
        Checks.says("Of one of PEOPLE: 0 .. 10. -1");
        IslandOffice x = new IslandOffice();
        due("nobody", x.about(0, 0), -1);
        x.person(-1500, 4, -1, 6);
        int[] want = {2, 28, 4, -2, 6, 0, 0, -2, 3, 0, 0};
        for (int what = 0; what < want.length; what++) {
            due("about(0, " + what + ")", x.about(0, what), want[what]);
        }
        due("what -1", x.about(0, -1), -1);
        due("what 11", x.about(0, 11), -1);
        due("person -1", x.about(-1, 1), -1);
        due("person 1", x.about(1, 1), -1);
        due("wild", x.about(Checks.HIGH, Checks.LOW), -1);
        Checks.says("Of a HOUSE: 0 .. 4. -1");
        due("what -1", x.home(4, -1), -1);
        due("what 5", x.home(4, 5), -1);
        due("what 0", x.home(4, 0), 1);
        due("what 4", x.home(4, 4), 0);
        Checks.says("-1 for others (count)");
        due("count(-1)", x.count(-1), -1);
        due("count(15)", x.count(15), -1);
        due("count(wild)", x.count(Checks.LOW), -1);
        due("count(14)", x.count(14), -2);
    }

    private static void postsOfLastWeek() {
        Checks.says("7 the POST held in the week that went by last (-2)");
        IslandOffice x = Checks.settled(1);
        x.person(-1500, 0, -1, 1);
        x.person(-1500, 0, -1, 1);
        x.guest(-1500, 1, 2, 2);
        for (int i = 0; i < 7; i++) {
            x.post(7, 1, 0);
        }
        x.post(0, 2, 0);
        due("no week went by", x.about(0, 7), -2);
        x.weeks(1);
        due("POST 7", x.about(0, 7), 7);
        due("POST 7", x.about(1, 7), 7);
        due("none", x.about(2, 7), -2);
        x.death(1);
        due("of one gone since", x.about(1, 7), 7);
        x.weeks(1);
        due("none is filled", x.about(0, 7), -2);
        due("of one gone before", x.about(1, 7), -2);
        due("who comes holds none", x.about(x.person(-1500, 0, -1, 1), 7), -2);
        x.skill(2, 7, true);
        x.open(7, false);
        due("guest still here", x.about(2, 5), 0);
        x.image();
        x.weeks(1);
        due("the guest was gone before POSTS were filled", x.about(2, 7), -2);
        x.restore();
        x.skill(0, 7, true);
        x.weeks(1);
        due("POST 0", x.about(0, 7), 0);
    }

    private static void hungryOfLastWeek() {
        Checks.says("10 whether HUNGRY in that week");
        IslandOffice x = new IslandOffice();
        x.person(-1500, 0, -1, 0);
        x.guest(-1500, 0, 0, 1);
        due("no week went by", x.about(0, 10), 0);
        x.weeks(1);
        due("hungry", x.about(0, 10), 1);
        due("guest", x.about(1, 10), 1);
        due("who comes isn't", x.about(x.person(-1500, 0, -1, 0), 10), 0);
        due("in that week, though there is some now", x.store(0, 1) + x.about(0, 10), 2);
        x.weeks(1);
        due("hungry", x.about(2, 10), 1);
        due("the guest, gone before", x.about(1, 10), 0);
        x.store(0, 100);
        x.weeks(1);
        due("not now", x.about(0, 10) + x.about(2, 10), 0);
        Checks.says("Who has less than NEED is HUNGRY");
        IslandOffice y = new IslandOffice();
        y.person(-1500, 0, -1, 0);
        y.image();
        int[] hungry = {1, 1, 1, 0, 0};
        for (int food = 0; food < hungry.length; food++) {
            y.restore();
            if (food > 0) {
                y.store(0, food);
            }
            y.weeks(1);
            due("with " + food, y.about(0, 10), hungry[food]);
        }
    }

    private static void dryOfLastWeek() {
        Checks.says("4 whether it was DRY in the week that went by last");
        IslandOffice x = new IslandOffice();
        x.house(11, 20, 3);
        x.person(-1500, 11, -1, 0);
        x.weeks(1);
        due("dry", x.home(11, 4), 1);
        due("another one", x.home(10, 4), 0);
        x.house(11, 0, 3);
        due("in that week", x.home(11, 4), 1);
        x.move(0, 10);
        x.weeks(1);
        due("not now", x.home(11, 4), 0);
    }
}
