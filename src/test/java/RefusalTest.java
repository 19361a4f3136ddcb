import java.util.ArrayList;
import java.util.Arrays;
import java.util.List;

/**
 * "Answers of several refusals are the first one here" and "A refused call changes nothing": each refused call is made
 * on an object that stands in a scene, then the object is asked all that there is to ask, beside a twin that stands in
 * the same scene without that call.
 */
public final class RefusalTest {
    private static final int PARTS = 6;

    /** A call, or a scene. */
    private interface On {
        long on(IslandOffice x);
    }

    private static final class Scene {
        final String name;
        final On build;
        final long[][] asIs = new long[PARTS][];

        Scene(String name, On build) {
            this.name = name;
            this.build = build;
            for (int part = 0; part < PARTS; part++) {
                asIs[part] = look(make(), part);
            }
        }

        IslandOffice make() {
            IslandOffice x = new IslandOffice();
            build.on(x);
            return x;
        }
    }

    public static void main(String[] args) {
        theMiddle();
        inTheMiddle(new Scene("in the middle", RefusalTest::middle));
        shelvesInTheMiddle(new Scene("in the middle", RefusalTest::middle));
        whereAllIsFull(new Scene("all is full", RefusalTest::full));
        whereLawsAreFull(new Scene("twelve laws", RefusalTest::manyLaws));
        whereStoresAreFull(new Scene("full stores", RefusalTest::fullStores));
        nearTheEnd(new Scene("week 390", RefusalTest::late));
        inTheLastWeek(new Scene("week 400", RefusalTest::last));
        onNew(new Scene("new", x -> 0));
        Checks.end();
    }

    /** The answer is due, and nothing else has changed. */
    private static void refused(Scene scene, String call, long want, On asked) {
        Checks.says(scene.name + ": answers of several refusals are the first one here");
        Checks.due(call, asked.on(scene.make()), want);
        for (int part = 0; part < PARTS; part++) {
            IslandOffice x = scene.make();
            asked.on(x);
            Checks.says(scene.name + ": a refused call changes nothing");
            boolean same = Arrays.equals(look(x, part), scene.asIs[part]);
            Checks.due("what can be asked (part " + part + ") behind " + call, same ? 1 : 0, 1);
        }
    }

    // ---- all that can be asked

    private static long[] look(IslandOffice x, int part) {
        List<Long> seen = new ArrayList<>();
        switch (part) {
            case 0: people(x, seen, 0, 14); break;
            case 1: people(x, seen, 14, 40); break;
            case 2: lawsAndHouses(x, seen); break;
            case 3: shelves(x, seen); break;
            case 4: settings(x, seen); break;
            default: weeks(x, seen); break;
        }
        long[] all = new long[seen.size()];
        for (int i = 0; i < all.length; i++) {
            all[i] = seen.get(i);
        }
        return all;
    }

    private static void see(List<Long> seen, long answer) {
        seen.add(answer);
    }

    private static void people(IslandOffice x, List<Long> seen, int from, int to) {
        for (int p = from; p < to; p++) {
            for (int what = 0; what <= 10; what++) {
                see(seen, x.about(p, what));
            }
        }
        for (int what = 0; what <= 14; what++) {
            see(seen, x.count(what));
        }
    }

    private static void lawsAndHouses(IslandOffice x, List<Long> seen) {
        for (int law = 0; law < 12; law++) {
            for (int what = 0; what < 6; what++) {
                see(seen, x.law(law, what));
            }
        }
        int week = x.count(7);
        for (int subject = 0; subject < 4; subject++) {
            for (int w = Math.max(0, week - 2); w < week + 3; w++) {
                see(seen, x.force(subject, w));
            }
            for (int p = 0; p < 10; p++) {
                see(seen, x.may(p, subject));
            }
        }
        for (int house = 0; house < 12; house++) {
            for (int what = 0; what < 5; what++) {
                see(seen, x.home(house, what));
            }
        }
        for (int i = 0; i < 8; i++) {
            see(seen, x.hands(i, false));
            see(seen, x.hands(i, true));
        }
        for (int i = 0; i < 30; i++) {
            see(seen, x.due(i));
        }
        see(seen, x.filled());
    }

    private static void shelves(IslandOffice x, List<Long> seen) {
        for (int d = 0; d < 8; d++) {
            see(seen, x.weight(d));
            see(seen, x.toss(d));
            see(seen, x.fault(d));
            for (int i = 0; i < 14; i++) {
                see(seen, Checks.thrown(x, d, i).equals("nothing") ? x.element(d, i) : 1000);
            }
        }
        for (int w = 0; w < 14; w++) {
            see(seen, x.sky(w, false));
            see(seen, x.sky(w, true));
        }
    }

    private static void settings(IslandOffice x, List<Long> seen) {
        for (int w = 0; w <= 400; w += w < 12 ? 1 : 97) {
            for (int what = 0; what < 5; what++) {
                see(seen, x.record(w, what));
            }
        }
        int[] first = {60, 50, 10, 12};
        for (int what = 0; what < 4; what++) {
            see(seen, x.set(what, first[what]));
        }
        for (int good = 0; good < 4; good++) {
            see(seen, x.lack(good, 9));
            see(seen, x.rank(good, 0, good));
            see(seen, x.rank(good, 1, 3));
            see(seen, x.store(good, 1));
        }
        for (int i = 0; i < 8; i++) {
            see(seen, x.worth(i, 9));
            see(seen, x.open(i, true));
        }
        see(seen, x.plan());
        see(seen, x.pays(21));
        see(seen, x.earn(1));
        see(seen, x.count(0) < 40 ? x.person(0, 0, -1, 0) : -2);
        see(seen, x.post(0, 1, 0));
        see(seen, x.order(3, 1));
    }

    private static void weeks(IslandOffice x, List<Long> seen) {
        for (int i = 0; i < 5; i++) {
            see(seen, x.weeks(1));
            for (int what = 0; what <= 14; what++) {
                see(seen, x.count(what));
            }
        }
        see(seen, x.restore());
        for (int what = 0; what <= 14; what++) {
            see(seen, x.count(what));
        }
        for (int p = 0; p < 8; p++) {
            see(seen, x.about(p, 5));
            see(seen, x.about(p, 6));
        }
    }

    // ---- scenes

    /** Week 9: of each KIND and STATE, laws of each fate, shelves of each content, an image of week 2. */
    private static long middle(IslandOffice x) {
        x.person(-1500, 0, -1, 1);
        x.person(-100, 0, 0, 0);
        x.person(-4000, 1, -1, 0);
        x.guest(-1500, 1, 2, 400);
        x.guest(-1500, 1, 2, 3);
        x.person(-1500, 2, -1, 0);
        x.person(-1500, 2, -1, 3);
        x.house(0, 4, 5);
        x.post(0, 1, 3);
        x.post(1, 2, 1);
        x.post(1, 1, 0);
        x.open(2, false);
        x.store(0, 40);
        x.store(1, 40);
        x.store(2, 30);
        x.order(0, 200);
        x.order(3, 10);
        x.rank(3, 1, 2);
        x.rank(0, 0, 4);
        x.earn(100);
        x.pays(5);
        x.set(2, 4);
        Checks.law(x, "v:a>17");
        x.weeks(2);
        x.image();
        Checks.law(x, "l:k=0");
        Checks.law(x, "e:k=2");
        Checks.law(x, "p:a<60");
        x.repeal(2);
        x.set(3, 3);
        x.store(1, 1);
        x.weeks(4);
        x.found(3, 0);
        x.death(2);
        x.weeks(3);
        Checks.rowOf(x, 0, 0, 'e', ':', 'a', '>', '1');
        x.weather(0, true);
        x.row(1, 1, 3);
        x.row(2, 2, 120);
        x.keep(3, 1, 0);
        x.keep(4, 2, 0);
        x.keep(5, 2, 3);
        x.row(6, 0, 4);
        Checks.rowOf(x, 7, 0, 'e', ':', 'a', '>', ')');
        return x.keep(6, 0, 0);
    }

    /** The scene has what the calls are refused for. */
    private static void theMiddle() {
        Checks.says("in the middle");
        IslandOffice x = new IslandOffice();
        middle(x);
        int[] states = {0, 0, 2, 0, 2, 1, 0};
        for (int p = 0; p < 7; p++) {
            Checks.due("STATE of " + p, x.about(p, 5), states[p]);
        }
        Checks.due("THE WEEK", x.count(7), 9);
        Checks.due("VOTERS", x.count(12), 2);
        Checks.due("repealed", x.law(2, 5), 3);
        Checks.due("VOID", x.law(3, 4), 1);
    }

    private static long full(IslandOffice x) {
        for (int p = 0; p < 40; p++) {
            x.person(p == 3 ? -100 : -1500, p % 12, -1, p % 3);
        }
        for (int i = 0; i < 8; i++) {
            x.post(i % 2, 1 + i % 3, i % 4);
        }
        for (int i = 0; i < 30; i++) {
            x.order(i % 4, 20);
        }
        x.set(3, 99);
        x.weeks(1);
        return x.death(5);
    }

    private static long manyLaws(IslandOffice x) {
        for (int p = 0; p < 4; p++) {
            x.person(-1500, 0, -1, 1);
        }
        Checks.text(x, 0, "e:a>1");
        for (int i = 0; i < 12; i++) {
            x.vote(0, 4);
        }
        x.found(3, 0);
        Checks.text(x, 1, "e:a>");
        x.row(2, 1, 4);
        return x.repeal(2);
    }

    private static long fullStores(IslandOffice x) {
        for (int i = 0; i < 40; i++) {
            x.store(i % 4, i < 36 ? 1000 : 900);
        }
        for (int i = 0; i < 99; i++) {
            x.earn(10000);
        }
        return x.earn(5000);
    }

    private static long late(IslandOffice x) {
        for (int i = 0; i < 10; i++) {
            x.weeks(39);
        }
        for (int i = 0; i < 29; i++) {
            x.order(1, 5);
        }
        x.person(-1500, 0, -1, 1);
        return x.post(0, 1, 0);
    }

    private static long last(IslandOffice x) {
        for (int i = 0; i < 8; i++) {
            x.weeks(50);
        }
        x.person(-1500, 0, -1, 1);
        return x.post(0, 1, 0);
    }

    // ---- refused calls

    private static void inTheMiddle(Scene s) {
        refused(s, "person: birth", -1, x -> x.person(10, 0, -1, 0));
        refused(s, "person: all", -1, x -> x.person(-5001, 12, 9, 256));
        refused(s, "person: mother", -1, x -> x.person(-1500, 0, 7, 0));
        refused(s, "guest: birth", -1, x -> x.guest(10, 0, 0, 400));
        refused(s, "guest: end", -1, x -> x.guest(-1500, 0, 0, 8));
        refused(s, "birth: none", -1, x -> x.birth(7));
        refused(s, "birth: a child", -3, x -> x.birth(1));
        refused(s, "birth: gone", -3, x -> x.birth(2));
        refused(s, "birth: a guest", -3, x -> x.birth(3));
        refused(s, "birth: away", -3, x -> x.birth(5));
        refused(s, "death: none", -1, x -> x.death(-1));
        refused(s, "death: gone", -3, x -> x.death(2));
        refused(s, "back: none", -1, x -> x.back(7));
        refused(s, "back: here", -3, x -> x.back(6));
        refused(s, "back: gone", -3, x -> x.back(4));
        refused(s, "skill: none", -1, x -> x.skill(7, 0, true));
        refused(s, "skill: skill", -1, x -> x.skill(0, 8, true));
        refused(s, "skill: gone", -3, x -> x.skill(2, 5, true));
        refused(s, "skill: skill and gone", -1, x -> x.skill(2, -1, true));
        refused(s, "move: none", -1, x -> x.move(-1, 3));
        refused(s, "move: house", -1, x -> x.move(0, 12));
        refused(s, "move: away", -3, x -> x.move(5, 3));
        refused(s, "move: house and away", -1, x -> x.move(5, -1));
        refused(s, "move: house and gone", -1, x -> x.move(2, 12));
        refused(s, "house: roof", -1, x -> x.house(0, 9, 10));
        refused(s, "house: cattle", -1, x -> x.house(0, 21, 9));
        refused(s, "house: house", -1, x -> x.house(12, 2, 2));
        refused(s, "about", -1, x -> x.about(0, 11));
        refused(s, "home", -1, x -> x.home(0, 5));
        refused(s, "repeal: none", -1, x -> x.repeal(4));
        refused(s, "repeal: repealed", -3, x -> x.repeal(2));
        refused(s, "repeal: VOID", -3, x -> x.repeal(3));
        refused(s, "found: none", -1, x -> x.found(4, 0));
        refused(s, "found: n", -1, x -> x.found(0, 99));
        refused(s, "found: n below 0", -1, x -> x.found(0, -1));
        refused(s, "found: VOID", -3, x -> x.found(3, 1));
        refused(s, "found: n and VOID", -1, x -> x.found(3, -1));
        refused(s, "force", -1, x -> x.force(4, 401));
        refused(s, "may: gone", -3, x -> x.may(2, 0));
        refused(s, "may: subject and gone", -1, x -> x.may(2, 4));
        refused(s, "law", -1, x -> x.law(0, 6));
        postsAndStores(s);
    }

    private static void postsAndStores(Scene s) {
        refused(s, "post: skill", -1, x -> x.post(8, 1, 1));
        refused(s, "post: hands", -1, x -> x.post(0, 4, 1));
        refused(s, "post: sort", -1, x -> x.post(0, 1, 4));
        refused(s, "open", -1, x -> x.open(3, false));
        refused(s, "hands", -1, x -> x.hands(3, false));
        refused(s, "store: good", -1, x -> x.store(4, 1));
        refused(s, "store: n", -1, x -> x.store(0, 1001));
        refused(s, "rank: good", -1, x -> x.rank(4, 0, 1));
        refused(s, "rank: what", -1, x -> x.rank(1, 2, 1));
        refused(s, "rank: n", -1, x -> x.rank(1, 0, 10));
        refused(s, "rank: n of a USE", -1, x -> x.rank(1, 1, 100));
        refused(s, "rank: USE of FOOD", -1, x -> x.rank(0, 1, 5));
        refused(s, "order: good", -1, x -> x.order(4, 1));
        refused(s, "order: n", -1, x -> x.order(0, 501));
        refused(s, "due", -1, x -> x.due(2));
        refused(s, "set: what", -1, x -> x.set(4, 1));
        refused(s, "set: ROOM", -1, x -> x.set(0, 501));
        refused(s, "set: CALM", -1, x -> x.set(1, 10000));
        refused(s, "set: YIELD", -1, x -> x.set(2, 100));
        refused(s, "set: LIMIT", -1, x -> x.set(3, 0));
        refused(s, "pays", -1, x -> x.pays(20));
        refused(s, "pays: above", -1, x -> x.pays(32));
        refused(s, "earn", -1, x -> x.earn(10001));
        refused(s, "earn: below", -1, x -> x.earn(-5));
        refused(s, "sky", -1, x -> x.sky(401, true));
        refused(s, "weeks", -1, x -> x.weeks(53));
        refused(s, "weeks: none", -1, x -> x.weeks(0));
        refused(s, "record: not yet", -3, x -> x.record(9, 0));
        refused(s, "record: what, and not yet", -1, x -> x.record(9, 5));
        refused(s, "worth: post", -1001, x -> x.worth(3, 5));
        refused(s, "worth: n", -1001, x -> x.worth(0, 31));
        refused(s, "lack: n", -1, x -> x.lack(0, 31));
        refused(s, "lack: good", -1, x -> x.lack(4, 3));
        refused(s, "count", -1, x -> x.count(15));
        // These answer, and change nothing either.
        refused(s, "lack: none", -2, x -> x.lack(2, 1));
        refused(s, "worth", 0, x -> x.worth(2, 30) * 0);
        refused(s, "plan", 0, x -> x.plan() * 0);
        refused(s, "hands and filled", 0, x -> (x.hands(0, true) + x.filled()) * 0);
    }

    private static void shelvesInTheMiddle(Scene s) {
        refused(s, "fault: nothing", -11, x -> x.fault(6));
        refused(s, "fault: shorts", -12, x -> x.fault(1));
        refused(s, "vote: shelf", -1, x -> x.vote(8, 1));
        refused(s, "vote: n", -1, x -> x.vote(0, 99));
        refused(s, "vote: n, nothing", -1, x -> x.vote(6, 99));
        refused(s, "vote: n, a person", -1, x -> x.vote(3, -1));
        refused(s, "vote: n, a fault", -1, x -> x.vote(7, -1));
        refused(s, "vote: nothing", -11, x -> x.vote(6, 0));
        refused(s, "vote: a person", -12, x -> x.vote(3, 0));
        refused(s, "vote: a law", -12, x -> x.vote(4, 0));
        refused(s, "vote: shorts", -12, x -> x.vote(1, 0));
        refused(s, "vote: a fault", -104, x -> x.vote(7, 0));
        refused(s, "vote: not enough", -3, x -> x.vote(0, 0));
        refused(s, "weather: shelf", -1, x -> x.weather(-1, true));
        refused(s, "weather: nothing", -11, x -> x.weather(6, true));
        refused(s, "weather: a person", -12, x -> x.weather(3, false));
        refused(s, "weather: a law", -12, x -> x.weather(4, true));
        refused(s, "keep: shelf", -1, x -> x.keep(8, 0, 0));
        refused(s, "keep: what", -1, x -> x.keep(0, 3, 0));
        refused(s, "keep: person", -1, x -> x.keep(0, 1, 7));
        refused(s, "keep: law", -1, x -> x.keep(0, 2, 4));
        refused(s, "keep: gone", -3, x -> x.keep(0, 1, 2));
        refused(s, "keep: shelf and gone", -1, x -> x.keep(-1, 1, 2));
        refused(s, "row: shelf", -1, x -> x.row(8, 0, 4));
        refused(s, "row: sort", -1, x -> x.row(0, 3, 4));
        refused(s, "row: n", -1, x -> x.row(0, 0, 121));
        refused(s, "row: below 0", -14, x -> x.row(0, 0, -1));
        refused(s, "row: sort and below 0", -1, x -> x.row(0, -1, -1));
        refused(s, "row: shelf and below 0", -1, x -> x.row(-1, 0, -1));
        refused(s, "put: shelf", -1, x -> x.put(8, 99, 9));
        refused(s, "put: nothing", -11, x -> x.put(6, 99, 9));
        refused(s, "put: a person", -12, x -> x.put(3, 0, 9));
        refused(s, "put: a law", -12, x -> x.put(4, 99, 9));
        refused(s, "put: place", -13, x -> x.put(0, 5, 9));
        refused(s, "put: place below 0", -13, x -> x.put(0, -1, 9));
        refused(s, "copy: shelf and nothing", -1, x -> x.copy(6, 0, 8, 0, 1));
        refused(s, "copy: nothing and a person", -11, x -> x.copy(3, 0, 6, 0, 1));
        refused(s, "copy: a person and place", -12, x -> x.copy(3, 0, 0, 99, 1));
        refused(s, "copy: sorts and place", -12, x -> x.copy(0, 0, 1, -1, 1));
        refused(s, "copy: place", -13, x -> x.copy(0, 0, 7, 1, 5));
        refused(s, "copy: place of the other", -13, x -> x.copy(0, 1, 7, 0, 5));
        refused(s, "copy: n below 0", -13, x -> x.copy(0, 1, 7, 0, -1));
        refused(s, "weight: a row", -12, x -> x.weight(0));
        refused(s, "weight: nothing", -11, x -> x.weight(6));
        refused(s, "toss: VOID", -15, x -> x.toss(5));
        refused(s, "toss: a row", -12, x -> x.toss(1));
        refused(s, "element: shelf", 0, x -> Checks.thrown(x, 9, 0).endsWith("IllegalArgumentException") ? 0 : 1);
        refused(s, "element: place", 0, x -> Checks.thrown(x, 0, 5).endsWith("IllegalStateException") ? 0 : 1);
        refused(s, "element: shelf and place", 0, x -> Checks.thrown(x, 8, -1).endsWith("ArgumentException") ? 0 : 1);
        refused(s, "element: a person", 0, x -> Checks.thrown(x, 3, 0).endsWith("IllegalStateException") ? 0 : 1);
    }

    private static void whereAllIsFull(Scene s) {
        refused(s, "person", -2, x -> x.person(-1500, 0, -1, 1));
        refused(s, "person: -1 and -2", -1, x -> x.person(-1500, 12, -1, 1));
        refused(s, "person: mother", -1, x -> x.person(-1500, 0, 40, 1));
        refused(s, "guest", -2, x -> x.guest(-1500, 0, 1, 400));
        refused(s, "guest: -1 and -2", -1, x -> x.guest(-1500, 0, 1, 0));
        refused(s, "birth", -2, x -> x.birth(0));
        refused(s, "birth: -1 and -2", -1, x -> x.birth(40));
        refused(s, "birth: -2 and -3, a child", -2, x -> x.birth(3));
        refused(s, "birth: -2 and -3, gone", -2, x -> x.birth(5));
        refused(s, "post", -2, x -> x.post(0, 1, 0));
        refused(s, "post: -1 and -2", -1, x -> x.post(0, 0, 0));
        refused(s, "order", -2, x -> x.order(0, 1));
        refused(s, "order: -1 and -2", -1, x -> x.order(0, 0));
        refused(s, "plan", -2, x -> x.plan());
        refused(s, "restore", -3, x -> x.restore());
    }

    private static void whereLawsAreFull(Scene s) {
        refused(s, "vote", -2, x -> x.vote(0, 4));
        refused(s, "vote: -1 and -2", -1, x -> x.vote(0, 5));
        refused(s, "vote: -2 and -3", -2, x -> x.vote(0, 2));
        refused(s, "vote: a fault and -2", -104, x -> x.vote(1, 4));
        refused(s, "vote: a fault, -2 and -3", -104, x -> x.vote(1, 0));
        refused(s, "vote: -12 and -2", -12, x -> x.vote(2, 4));
        refused(s, "vote: -11 and -2", -11, x -> x.vote(3, 4));
        refused(s, "vote: -1, -11 and -2", -1, x -> x.vote(3, 5));
        refused(s, "found: VOID", -3, x -> x.found(3, 4));
        refused(s, "found: -1 and -3", -1, x -> x.found(3, 5));
        refused(s, "repeal: repealed", -3, x -> x.repeal(2));
    }

    private static void whereStoresAreFull(Scene s) {
        for (int g = 0; g < 4; g++) {
            int good = g;
            refused(s, "store", -2, x -> x.store(good, 100));
            refused(s, "store: -1 and -2", -1, x -> x.store(good, 1001));
        }
        refused(s, "earn", -2, x -> x.earn(5001));
        refused(s, "earn: -1 and -2", -1, x -> x.earn(10001));
    }

    private static void nearTheEnd(Scene s) {
        refused(s, "weeks", -2, x -> x.weeks(11));
        refused(s, "weeks: -1 and -2", -1, x -> x.weeks(53));
        refused(s, "worth", -1002, x -> x.worth(0, 11));
        refused(s, "worth: -1001 and -1002", -1001, x -> x.worth(0, 31));
        refused(s, "worth: -1001 and -1002", -1001, x -> x.worth(1, 11));
        refused(s, "lack", -1, x -> x.lack(0, 11));
        refused(s, "plan: -2 and -3", -2, x -> x.plan());
        refused(s, "record", -3, x -> x.record(390, 0));
    }

    private static void inTheLastWeek(Scene s) {
        refused(s, "weeks", -2, x -> x.weeks(1));
        refused(s, "weeks: -1 and -2", -1, x -> x.weeks(0));
        refused(s, "worth", -1002, x -> x.worth(0, 1));
        refused(s, "lack", -1, x -> x.lack(0, 1));
        refused(s, "plan", -3, x -> x.plan());
        refused(s, "record", -3, x -> x.record(400, 4));
        refused(s, "record: -1 and -3", -1, x -> x.record(400, -1));
        refused(s, "person", -1, x -> x.person(401, 0, -1, 0));
        refused(s, "guest", -1, x -> x.guest(0, 0, 0, 399));
    }

    private static void onNew(Scene s) {
        refused(s, "birth", -1, x -> x.birth(0));
        refused(s, "death", -1, x -> x.death(0));
        refused(s, "back", -1, x -> x.back(0));
        refused(s, "skill", -1, x -> x.skill(0, 0, true));
        refused(s, "move", -1, x -> x.move(0, 0));
        refused(s, "repeal", -1, x -> x.repeal(0));
        refused(s, "found", -1, x -> x.found(0, 0));
        refused(s, "may", -1, x -> x.may(0, 0));
        refused(s, "open", -1, x -> x.open(0, false));
        refused(s, "hands", -1, x -> x.hands(0, false));
        refused(s, "due", -1, x -> x.due(0));
        refused(s, "worth", -1001, x -> x.worth(0, 1));
        refused(s, "restore", -3, x -> x.restore());
        refused(s, "vote", -11, x -> x.vote(0, 0));
        refused(s, "keep", -1, x -> x.keep(0, 1, 0));
        refused(s, "keep", -1, x -> x.keep(0, 2, 0));
        refused(s, "record", -3, x -> x.record(0, 0));
    }
}
