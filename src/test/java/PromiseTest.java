/** Each promise of ../shared/DOC.md by hand: ordinary inputs, edges, wrong inputs. */
public final class PromiseTest {
    private static final int LOW = Integer.MIN_VALUE;
    private static final int HIGH = Integer.MAX_VALUE;
    private static int wrong = 0;
    private static int made = 0;
    private static String part = "";

    private static void due(String call, long got, long want) {
        made++;
        if (got != want) {
            wrong++;
            System.out.println(part + ": " + call + " answered " + got + ", due is " + want);
        }
    }

    private static void rowOf(IslandOffice x, int d, int sort, int... cells) {
        due("row", x.row(d, sort, cells.length), 0);
        for (int i = 0; i < cells.length; i++) {
            due("put", x.put(d, i, cells[i]), 0);
        }
    }

    private static void text(IslandOffice x, int d, String letters) {
        int[] cells = new int[letters.length()];
        for (int i = 0; i < cells.length; i++) {
            cells[i] = letters.charAt(i);
        }
        rowOf(x, d, 0, cells);
    }

    private static int faultOf(String letters) {
        IslandOffice x = new IslandOffice();
        text(x, 0, letters);
        return x.fault(0);
    }

    /** Votes for a text with the votes of all; shelf 7 is used for it. */
    private static int made(IslandOffice x, String letters) {
        text(x, 7, letters);
        return x.vote(7, x.count(12));
    }

    /** Whether a condition holds for one: as a law of l that is in force a week later. */
    private static int holds(IslandOffice x, int p, String condition) {
        due("image", x.image(), x.count(7));
        int law = made(x, "l:" + condition);
        due("made " + condition, law >= 0 ? 1 : 0, 1);
        x.weeks(1);
        int is = x.may(p, 3);
        x.restore();
        return is;
    }

    private static String nots(int n) {
        StringBuilder s = new StringBuilder();
        for (int i = 0; i < n; i++) {
            s.append('!');
        }
        return s.toString();
    }

    public static void main(String[] args) {
        newObject();
        persons();
        guests();
        births();
        deaths();
        backs();
        skills();
        moves();
        houses();
        abouts();
        homes();
        faults();
        conditions();
        votes();
        repeals();
        founds();
        forces();
        mays();
        lawParts();
        posts();
        opens();
        crews();
        stores();
        ranks();
        orders();
        sets();
        pays();
        earns();
        weathers();
        weekCounts();
        water();
        grass();
        ship();
        rationing();
        discontent();
        purse();
        leaving();
        records();
        worths();
        lacks();
        plans();
        images();
        counts();
        keeps();
        rows();
        elements();
        copies();
        weights();
        tosses();
        System.out.println(made + " answers looked at, " + wrong + " not as due");
        if (wrong > 0) {
            System.exit(1);
        }
    }

    private static void newObject() {
        part = "promise 1";
        IslandOffice x = new IslandOffice();
        for (int i = 0; i <= 13; i++) {
            due("count " + i, x.count(i), i == 11 ? 100 : 0);
        }
        due("count 14", x.count(14), -2);
        due("pays as at first", x.pays(21), 0);
        for (int h = 0; h < 12; h++) {
            due("tank", x.home(h, 2), 20);
            due("roof", x.home(h, 3), 3);
            due("cattle", x.home(h, 1), 0);
            due("dry", x.home(h, 4), 0);
        }
        due("ROOM", x.set(0, 60), 60);
        due("CALM", x.set(1, 50), 50);
        due("YIELD", x.set(2, 10), 10);
        due("LIMIT", x.set(3, 12), 12);
        for (int g = 0; g < 4; g++) {
            due("rank", x.rank(g, 0, g), g);
            due("store", x.store(g, 1), 1);
            due("lack", x.lack(g, 30), -2);
        }
        for (int d = 0; d < 8; d++) {
            due("weight", x.weight(d), -11);
        }
        due("restore", x.restore(), -3);
        due("filled", x.filled(), 0);
    }

    private static void persons() {
        part = "promise 2";
        IslandOffice x = new IslandOffice();
        due("born too early", x.person(-5001, 0, -1, 0), -1);
        due("born later", x.person(1, 0, -1, 0), -1);
        due("house -1", x.person(0, -1, -1, 0), -1);
        due("house 12", x.person(0, 12, -1, 0), -1);
        due("mother -2", x.person(0, 0, -2, 0), -1);
        due("mother herself", x.person(0, 0, 0, 0), -1);
        due("skills -1", x.person(0, 0, -1, -1), -1);
        due("skills 256", x.person(0, 0, -1, 256), -1);
        due("wild", x.person(LOW, HIGH, LOW, HIGH), -1);
        due("refused", x.count(0), 0);
        due("first", x.person(-5000, 11, -1, 255), 0);
        due("second", x.person(0, 0, 0, 0), 1);
        due("mother", x.about(1, 3), 0);
        due("no mother", x.about(0, 3), -2);
        due("here", x.about(1, 5), 0);
        due("discontent", x.about(1, 6), 0);
        due("post", x.about(1, 7), -2);
        x.death(0);
        due("of a dead mother", x.person(0, 0, 0, 0), 2);
        x.weeks(5);
        due("born in week 6", x.person(6, 0, -1, 0), -1);
        due("born in week 5", x.person(5, 0, -1, 0), 3);
        for (int p = 4; p < 40; p++) {
            due("more", x.person(-2000, 3, -1, 1), p);
        }
        due("no room", x.person(-2000, 3, -1, 1), -2);
        due("first refusal", x.person(-2000, 12, -1, 1), -1);
        due("no room for a guest", x.guest(-2000, 3, 1, 400), -2);
        due("guest's first refusal", x.guest(-2000, 3, 1, 401), -1);
        due("no room for a child", x.birth(4), -2);
        due("birth's first refusal", x.birth(40), -1);
        due("room before state", x.birth(0), -2);
        due("count", x.count(0), 40);
    }

    private static void guests() {
        part = "promise 3";
        IslandOffice x = new IslandOffice();
        x.weeks(3);
        due("end before", x.guest(-1000, 0, 0, 2), -1);
        due("end 401", x.guest(-1000, 0, 0, 401), -1);
        due("birth", x.guest(4, 0, 0, 9), -1);
        due("birth", x.guest(-5001, 0, 0, 9), -1);
        due("house", x.guest(0, 12, 0, 9), -1);
        due("skills", x.guest(0, 0, 256, 9), -1);
        due("end now", x.guest(3, 0, 0, 3), 0);
        due("end 400", x.guest(-5000, 1, 255, 400), 1);
        due("end 4", x.guest(-100, 1, 255, 4), 2);
        due("kind of a newborn guest", x.about(0, 0), 5);
        due("kind of an old guest", x.about(1, 0), 5);
        due("no mother", x.about(1, 3), -2);
        due("here", x.count(1), 3);
        due("weeks", x.weeks(1), 2);
        due("left", x.about(0, 5), 2);
        due("kind", x.about(0, 0), -2);
        due("weeks", x.weeks(1), 1);
        due("left", x.about(2, 5), 2);
        due("gone", x.count(3), 2);
    }

    private static void births() {
        part = "promise 4";
        IslandOffice x = new IslandOffice();
        due("none", x.birth(0), -1);
        x.person(-1500, 4, -1, 3);
        x.person(-16 * 52 + 1, 4, -1, 3);
        x.person(-65 * 52, 4, -1, 3);
        x.guest(-1500, 4, 3, 400);
        x.person(-1500, 5, -1, 0);
        x.person(-16 * 52, 4, -1, 0);
        x.person(-65 * 52 + 1, 4, -1, 0);
        due("wild", x.birth(LOW), -1);
        due("child", x.birth(1), -3);
        due("old", x.birth(2), -3);
        due("guest", x.birth(3), -3);
        due("a hand's", x.birth(0), 7);
        due("a person's", x.birth(4), 8);
        due("at 16", x.birth(5), 9);
        due("at 64", x.birth(6), 10);
        due("house", x.about(8, 2), 5);
        due("mother", x.about(8, 3), 4);
        due("age", x.about(8, 1), 0);
        due("kind", x.about(8, 0), 1);
        due("skills", x.about(7, 4), 0);
        x.death(4);
        due("of one gone", x.birth(4), -3);
        x.weeks(1);
        x.move(0, 9);
        due("later", x.birth(0), 11);
        due("house now", x.about(11, 2), 9);
        x.store(0, 500);
        x.weeks(51);
        due("born in week 1, in week 52", x.about(11, 1), 0);
        x.weeks(1);
        due("born in week 1, in week 53", x.about(11, 1), 1);
    }

    private static void deaths() {
        part = "promise 5";
        IslandOffice x = new IslandOffice();
        x.person(-103, 0, -1, 0);
        x.person(-104, 0, -1, 0);
        due("none", x.death(2), -1);
        due("none", x.death(-1), -1);
        due("age", x.death(0), 1);
        due("age", x.death(1), 2);
        due("again", x.death(0), -3);
        due("gone", x.about(0, 5), 2);
        due("heads", x.count(1), 0);
        due("gone", x.count(3), 2);
        due("need", x.about(0, 8), 0);
        due("wage", x.about(0, 9), 0);
        IslandOffice y = goneAway();
        due("of one away", y.death(0), 40);
        due("away now", y.count(2), 2);
        due("back no more", y.back(0), -3);
    }

    /** Three that went away in week 4 (a mother 0 of 1, and 2), and one who is old; THE WEEK is 5. */
    private static IslandOffice goneAway() {
        IslandOffice x = new IslandOffice();
        x.person(-40 * 52, 0, -1, 0);
        x.person(-10 * 52, 0, 0, 0);
        x.person(-30 * 52, 1, -1, 1);
        x.person(-70 * 52, 2, -1, 0);
        x.set(3, 1);
        due("heads", x.weeks(5), 1);
        return x;
    }

    private static void backs() {
        part = "promise 6";
        IslandOffice x = goneAway();
        due("none", x.back(4), -1);
        due("none", x.back(-1), -1);
        due("here", x.back(3), -3);
        due("state", x.about(0, 5), 1);
        due("kind", x.about(0, 0), 3);
        due("discontent", x.about(0, 6), 0);
        due("need", x.about(0, 8), 0);
        due("wage", x.about(2, 9), 0);
        due("back", x.back(0), 40);
        due("again", x.back(0), -3);
        due("child", x.back(1), 10);
        due("hand", x.back(2), 30);
        due("kind", x.about(2, 0), 2);
        due("discontent", x.about(0, 6), 0);
        due("heads", x.count(1), 4);
        x.death(0);
        due("gone", x.back(0), -3);
    }

    private static void skills() {
        part = "promise 7";
        IslandOffice x = goneAway();
        due("none", x.skill(4, 0, true), -1);
        due("skill -1", x.skill(3, -1, true), -1);
        due("skill 8", x.skill(3, 8, true), -1);
        due("learnt", x.skill(3, 7, true), 1);
        due("learnt already", x.skill(3, 7, true), 0);
        due("skills", x.about(3, 4), 128);
        due("forgotten", x.skill(3, 7, false), 1);
        due("forgotten already", x.skill(3, 7, false), 0);
        due("skills", x.about(3, 4), 0);
        due("of one away", x.skill(2, 3, true), 1);
        due("skills", x.about(2, 4), 9);
        due("forgotten, one of two", x.skill(2, 0, false), 1);
        due("skills", x.about(2, 4), 8);
        x.death(2);
        due("gone", x.skill(2, 3, false), -3);
        due("skills", x.about(2, 4), 8);
    }

    private static void moves() {
        part = "promise 8";
        IslandOffice x = goneAway();
        due("none", x.move(4, 0), -1);
        due("house 12", x.move(3, 12), -1);
        due("house -1", x.move(3, -1), -1);
        due("away", x.move(0, 3), -3);
        due("moved", x.move(3, 11), 2);
        due("moved", x.move(3, 11), 11);
        due("house", x.about(3, 2), 11);
        due("heads", x.home(11, 0), 1);
        due("heads", x.home(2, 0), 0);
        x.death(3);
        due("gone", x.move(3, 0), -3);
    }

    private static void houses() {
        part = "promise 9";
        IslandOffice x = new IslandOffice();
        due("house 12", x.house(12, 0, 3), -1);
        due("house -1", x.house(-1, 0, 3), -1);
        due("cattle 21", x.house(0, 21, 3), -1);
        due("cattle -1", x.house(0, -1, 3), -1);
        due("roof 0", x.house(0, 0, 0), -1);
        due("roof 10", x.house(0, 0, 10), -1);
        due("the same", x.house(0, 0, 3), 0);
        due("other cattle", x.house(0, 20, 3), 1);
        due("other roof", x.house(0, 20, 9), 1);
        due("both", x.house(0, 0, 1), 1);
        due("the same", x.house(0, 0, 1), 0);
        due("another house", x.home(1, 3), 3);
    }

    private static void abouts() {
        part = "promise 10";
        IslandOffice x = new IslandOffice();
        due("none", x.about(0, 0), -1);
        x.person(-1500, 3, -1, 5);
        due("what -1", x.about(0, -1), -1);
        due("what 11", x.about(0, 11), -1);
        due("person -1", x.about(-1, 0), -1);
        due("person 1", x.about(1, 0), -1);
        due("kind", x.about(0, 0), 2);
        due("age", x.about(0, 1), 28);
        due("house", x.about(0, 2), 3);
        due("skills", x.about(0, 4), 5);
        due("need", x.about(0, 8), 3);
        due("wage", x.about(0, 9), 0);
        x.guest(-1500, 3, 5, 400);
        x.person(-1500, 3, -1, 0);
        x.person(-100, 3, -1, 9);
        x.person(-4000, 3, -1, 9);
        due("guest's need", x.about(1, 8), 4);
        due("guest's wage", x.about(1, 9), 0);
        due("person's need", x.about(2, 8), 3);
        due("child's kind, with skills", x.about(3, 0), 1);
        due("child's need", x.about(3, 8), 2);
        due("child's wage", x.about(3, 9), 0);
        due("old one's kind, with skills", x.about(4, 0), 4);
        due("old one's need", x.about(4, 8), 2);
        due("pension", x.about(4, 9), 2);
        x.post(0, 1, 0);
        x.post(2, 1, 0);
        x.weeks(1);
        due("post", x.about(0, 7), 0);
        due("post", x.about(1, 7), 1);
        due("no post", x.about(2, 7), -2);
        due("hand's need with a post", x.about(0, 8), 4);
        due("hand's wage", x.about(0, 9), 3);
        due("guest's need with a post", x.about(1, 8), 5);
        due("guest's wage", x.about(1, 9), 6);
        due("need of all", x.count(13), 4 + 5 + 3 + 2 + 2);
        due("hungry", x.about(0, 10), 1);
        x.skill(0, 0, false);
        x.skill(0, 2, false);
        due("a person now, the post of last week", x.about(0, 7), 0);
        due("need without skills", x.about(0, 8), 3);
        due("wage without skills", x.about(0, 9), 0);
        x.death(1);
        due("gone: need", x.about(1, 8), 0);
        due("gone: wage", x.about(1, 9), 0);
        x.store(0, 100);
        x.weeks(1);
        due("hungry no more", x.about(0, 10), 0);
        due("no post now", x.about(0, 7), -2);
        due("gone: no post", x.about(1, 7), -2);
        due("age cut", new IslandOffice().about(0, 1), -1);
        IslandOffice y = new IslandOffice();
        y.person(-64 * 52 - 51, 0, -1, 1);
        y.post(0, 1, 0);
        y.store(0, 9);
        y.weeks(1);
        due("old since", y.about(0, 0), 4);
        due("with the post of last week", y.about(0, 7), 0);
        due("an old one's need", y.about(0, 8), 2);
        due("an old one's wage", y.about(0, 9), 2);
        y.weeks(1);
        due("old ones hold none", y.about(0, 7), -2);
    }

    private static void homes() {
        part = "promise 11";
        IslandOffice x = new IslandOffice();
        due("house -1", x.home(-1, 0), -1);
        due("house 12", x.home(12, 0), -1);
        due("what -1", x.home(0, -1), -1);
        due("what 5", x.home(0, 5), -1);
        x.house(7, 12, 4);
        x.person(-1000, 7, -1, 0);
        x.guest(-1000, 7, 0, 0);
        due("heads", x.home(7, 0), 2);
        due("cattle", x.home(7, 1), 12);
        due("roof", x.home(7, 3), 4);
        x.weeks(1);
        due("heads", x.home(7, 0), 1);
        due("tank", x.home(7, 2), 7);
        due("not dry", x.home(7, 4), 0);
        x.weeks(1);
        due("tank", x.home(7, 2), 0);
        due("dry", x.home(7, 4), 1);
        x.house(7, 0, 4);
        x.death(0);
        due("dry in that week", x.home(7, 4), 1);
        x.weeks(1);
        due("nobody is thirsty", x.home(7, 4), 0);
    }

    private static void faults() {
        part = "promise 12";
        IslandOffice x = new IslandOffice();
        due("shelf -1", x.fault(-1), -1);
        due("shelf 8", x.fault(8), -1);
        due("nothing", x.fault(0), -11);
        x.row(0, 1, 3);
        due("shorts", x.fault(0), -12);
        x.row(0, 2, 3);
        due("ints", x.fault(0), -12);
        x.person(-1500, 0, -1, 0);
        x.keep(0, 1, 0);
        due("a person", x.fault(0), -12);
        text(x, 1, "v:a>1");
        due("law", x.vote(1, 1), 0);
        x.keep(0, 2, 0);
        due("a law", x.fault(0), -12);
        rowOf(x, 0, 0, 118, 58, 97, 62, -128);
        due("a byte below 0", x.fault(0), 4);
        due("empty", faultOf(""), 0);
        due("v", faultOf("v"), 1);
        due("v:", faultOf("v:"), 2);
        due("v:a", faultOf("v:a"), 3);
        due("v:a>", faultOf("v:a>"), 4);
        due("v:a>1", faultOf("v:a>1"), -2);
        due("p:", faultOf("p:k=2"), -2);
        due("e:", faultOf("e:h<3"), -2);
        due("l:", faultOf("l:c+s-w<d"), -2);
        due("x:", faultOf("x:a>1"), 0);
        due("V:", faultOf("V:a>1"), 0);
        due("v;", faultOf("v;a>1"), 1);
        due("v:b", faultOf("v:b>1"), 2);
        due("blank", faultOf("v: a>1"), 2);
        due("blank", faultOf("v:a >1"), 3);
        due("a>=", faultOf("v:a>=1"), 4);
        due("two tests", faultOf("v:a>1>2"), 5);
        due("1234", faultOf("v:1234<a"), -2);
        due("12345", faultOf("v:12345<a"), 6);
        due("0", faultOf("v:0<a"), -2);
        due("00", faultOf("v:00<a"), 3);
        due("01", faultOf("v:a<01"), 5);
        due("10", faultOf("v:a<10"), -2);
        due("a1", faultOf("v:a1<3"), 3);
        due("1a", faultOf("v:1a<3"), 3);
        due("aa", faultOf("v:a<aa"), 5);
        due("+a", faultOf("v:+a<3"), 2);
        due("a+", faultOf("v:a+<3"), 4);
        due("a+", faultOf("v:a<3+"), 6);
        due("a--", faultOf("v:a--3<3"), 4);
        due("(a)", faultOf("v:(a)<3"), 4);
        due("sum in brackets", faultOf("v:(a<3)<3"), 7);
        due("brackets in a sum", faultOf("v:a<(3)"), 4);
        due("brackets behind +", faultOf("v:a+(3)<2"), 4);
        due("()", faultOf("v:()"), 3);
        due("(", faultOf("v:(a<3"), 6);
        due(")", faultOf("v:a<3)"), 5);
        due("(a<3))", faultOf("v:(a<3))"), 7);
        due("(a<3)4", faultOf("v:(a<3)4"), 7);
        due("(a<3)(", faultOf("v:(a<3)("), 7);
        due("&", faultOf("v:a<3&"), 6);
        due("&&", faultOf("v:a<3&&a<4"), 6);
        due("|&", faultOf("v:a<3|&a<4"), 6);
        due("!", faultOf("v:!"), 3);
        due("!!", faultOf("v:!!a<3"), -2);
        due("!&", faultOf("v:!&a<3"), 3);
        due("behind !", faultOf("v:a!<3"), 3);
        due("! in a sum", faultOf("v:a<!3"), 4);
        due("all", faultOf("e:!(h>1)&a+1>29|k=2"), -2);
        due("8 deep", faultOf("v:((((((((a<3))))))))"), -2);
        due("9 deep", faultOf("v:(((((((((a<3)))))))))"), 10);
        due("9 deep with !", faultOf("v:!(!(!(!(!(!(!(!(!(a<3)))))))))"), 19);
        due("8 deep twice", faultOf("v:((((((((a<3))))))))&((((((((a<3))))))))"), -2);
        due("120 bytes", faultOf("v:" + nots(115) + "a<3"), -2);
        due("120 bytes, too early", faultOf("v:" + nots(118)), 120);
    }

    private static IslandOffice twoInWeek7() {
        IslandOffice x = new IslandOffice();
        x.store(0, 999);
        x.store(1, 999);
        x.house(2, 3, 9);
        x.set(3, 99);
        x.person(-28 * 52, 2, -1, 0b10110);
        x.person(-28 * 52, 2, -1, 0);
        x.weeks(7);
        return x;
    }

    private static void conditions() {
        part = "term 2";
        IslandOffice x = twoInWeek7();
        due("a", holds(x, 0, "a=28"), 1);
        due("k", holds(x, 0, "k=2"), 1);
        due("k", holds(x, 1, "k=0"), 1);
        due("h", holds(x, 0, "h=2"), 1);
        due("c", holds(x, 0, "c=3"), 1);
        due("s", holds(x, 0, "s=3"), 1);
        due("w", holds(x, 0, "w=8"), 1);
        due("<", holds(x, 0, "3<4"), 1);
        due("<", holds(x, 0, "4<4"), 0);
        due(">", holds(x, 0, "5>4"), 1);
        due(">", holds(x, 0, "4>4"), 0);
        due("=", holds(x, 0, "4=4"), 1);
        due("=", holds(x, 0, "4=5"), 0);
        x = twoInWeek7();
        due("from the left", holds(x, 0, "9-3-2=4"), 1);
        due("from the left", holds(x, 0, "9-3+2=8"), 1);
        due("right sum", holds(x, 0, "4=9-3-2"), 1);
        due("below 0", holds(x, 0, "3-9<0"), 1);
        due("9999", holds(x, 0, "9999+9999=9999+9998+1"), 1);
        due("& binds", holds(x, 0, "1=1|1=2&1=2"), 1);
        due("& binds", holds(x, 0, "1=2&1=2|1=1"), 1);
        due("brackets", holds(x, 0, "(1=1|1=2)&1=2"), 0);
        due("! binds", holds(x, 0, "!1=2&1=2"), 0);
        x = twoInWeek7();
        due("! of brackets", holds(x, 0, "!(1=2&1=2)"), 1);
        due("!!", holds(x, 0, "!!1=1"), 1);
        due("!!!", holds(x, 0, "!!!1=1"), 0);
        due("! |", holds(x, 0, "!1=1|1=1"), 1);
        due("deep", holds(x, 0, "!(1=2|!(1=1&!(1=2|(1=2))))"), 1);
        due("and, and", holds(x, 0, "1=1&1=1&1=2"), 0);
        due("or, or", holds(x, 0, "1=2|1=2|1=1"), 1);
        x.store(1, 1000);
        x.weeks(45);
        due("w", x.count(7), 52);
        due("w of week 53", holds(x, 0, "w=1"), 1);
        IslandOffice y = new IslandOffice();
        y.person(-1500, 0, -1, 0);
        made(y, "l:d=2");
        y.weeks(1);
        // Hungry: 2, no fuel: 1.
        due("d", y.about(0, 6), 3);
        due("d", y.may(0, 3), 0);
    }

    private static void votes() {
        part = "promise 13";
        IslandOffice x = new IslandOffice();
        due("nothing", x.vote(0, 0), -11);
        due("shelf", x.vote(8, 0), -1);
        due("shelf", x.vote(-1, 0), -1);
        due("n above", x.vote(0, 1), -1);
        x.row(0, 2, 5);
        due("ints", x.vote(0, 0), -12);
        text(x, 0, "v:a>>");
        due("fault", x.vote(0, 0), -104);
        text(x, 0, "");
        due("fault 0", x.vote(0, 0), -100);
        text(x, 0, "v:a>17");
        due("nobody votes", x.vote(0, 0), -3);
        for (int p = 0; p < 4; p++) {
            x.person(-18 * 52, 0, -1, 0);
        }
        x.person(-18 * 52 + 1, 0, -1, 0);
        x.guest(-1500, 0, 0, 400);
        due("voters", x.count(12), 4);
        due("n -1", x.vote(0, -1), -1);
        due("n 5", x.vote(0, 5), -1);
        due("half", x.vote(0, 2), -3);
        due("above half", x.vote(0, 3), 0);
        due("all", x.vote(0, 4), 1);
        due("votes", x.law(0, 2), 3);
        due("voters", x.law(0, 3), 4);
        text(x, 0, "p:k=5");
        for (int law = 2; law < 12; law++) {
            due("more", x.vote(0, 4), law);
        }
        due("12 laws", x.vote(0, 4), -2);
        due("12 laws ahead of votes", x.vote(0, 1), -2);
        text(x, 0, "p:k");
        due("fault ahead of room", x.vote(0, 4), -103);
        due("laws", x.count(4), 12);
        IslandOffice y = new IslandOffice();
        y.person(-1500, 0, -1, 1);
        y.guest(-1500, 0, 1, 400);
        text(y, 0, "v:k=5");
        due("made", y.vote(0, 1), 0);
        due("voters still", y.count(12), 1);
        y.weeks(1);
        due("guests are no voters", y.count(12), 0);
        due("but it holds for them", y.may(1, 0), 1);
        due("nobody can vote", y.vote(0, 0), -3);
    }

    private static void repeals() {
        part = "promise 14";
        IslandOffice x = new IslandOffice();
        x.person(-1500, 0, -1, 0);
        due("none", x.repeal(0), -1);
        made(x, "e:a>1");
        made(x, "e:a>2");
        due("none", x.repeal(2), -1);
        due("none", x.repeal(-1), -1);
        due("force", x.force(2, 1), 1);
        x.weeks(2);
        due("repealed", x.repeal(1), 1);
        due("from", x.law(1, 5), 3);
        due("not repealed", x.law(0, 5), -2);
        due("again", x.repeal(1), -3);
        due("still in force", x.force(2, 2), 1);
        due("the other one", x.force(2, 3), 0);
        due("the other one", x.force(2, 400), 0);
        x.found(0, 0);
        due("void", x.repeal(0), -3);
        due("void isn't repealed", x.law(0, 5), -2);
        due("neither", x.force(2, 3), -2);
        due("found of a repealed one", x.found(1, 0), 1);
    }

    private static void founds() {
        part = "promise 15";
        IslandOffice x = new IslandOffice();
        x.person(-1500, 0, -1, 0);
        x.person(-1500, 0, -1, 0);
        x.person(-1500, 0, -1, 0);
        due("none", x.found(0, 0), -1);
        due("v 0", made(x, "v:a>0"), 0);
        due("p 1, without v", made(x, "p:a>0"), 1);
        x.weeks(1);
        due("v 2 under 0", made(x, "v:a>1"), 2);
        due("e 3 under 0", made(x, "e:a>1"), 3);
        x.weeks(1);
        due("l 4 under 2", made(x, "l:a>1"), 4);
        due("v 5 under 2", made(x, "v:a>2"), 5);
        x.weeks(1);
        due("e 6 under 5", made(x, "e:a>1"), 6);
        due("n 4", x.found(0, 4), -1);
        due("n -1", x.found(0, -1), -1);
        due("enough", x.found(0, 2), 0);
        due("votes told anew", x.law(0, 2), 2);
        due("not void", x.law(0, 4), 0);
        x.image();
        due("short: 2, 4, 5, 6", x.found(2, 1), 4);
        due("votes told anew", x.law(2, 2), 1);
        due("void again", x.found(2, 1), -3);
        due("out of range ahead of void", x.found(2, 4), -1);
        due("0 stands", x.law(0, 4), 0);
        due("3 stands", x.law(3, 4), 0);
        due("6 is void", x.law(6, 4), 1);
        due("0 is in force again", x.force(0, 3), 0);
        due("0, 3 now", x.found(0, 0), 2);
        due("1 stands", x.law(1, 4), 0);
        due("1 alone, no law of v", x.found(1, 0), 1);
        x.restore();
        due("all under 0", x.found(0, 1), 6);
        x.restore();
        due("a law that isn't of v takes none with it", x.found(3, 1), 1);
        x.restore();
        due("repealed", x.repeal(0), 1);
        due("what was made before hangs on it", x.found(0, 0), 6);
        IslandOffice y = new IslandOffice();
        y.person(-1500, 0, -1, 0);
        y.person(-1500, 0, -1, 0);
        made(y, "v:a>0");
        due("not above", y.found(0, 1), 1);
    }

    private static void forces() {
        part = "promise 16";
        IslandOffice x = new IslandOffice();
        x.person(-1500, 0, -1, 0);
        due("subject -1", x.force(-1, 0), -1);
        due("subject 4", x.force(4, 0), -1);
        due("week -1", x.force(0, -1), -1);
        due("week 401", x.force(0, 401), -1);
        due("none", x.force(0, 400), -2);
        made(x, "v:a>1");
        made(x, "p:a>1");
        made(x, "e:a>1");
        made(x, "l:a>1");
        made(x, "e:a>2");
        for (int s = 0; s < 4; s++) {
            due("not yet", x.force(s, 0), -2);
            due("subject " + s, x.force(s, 1), s == 2 ? 4 : s);
        }
        x.weeks(1);
        made(x, "e:a>3");
        due("the older one", x.force(2, 1), 4);
        due("the one that begins last", x.force(2, 2), 5);
        x.found(5, 0);
        due("not a void one", x.force(2, 2), 4);
    }

    private static void mays() {
        part = "promise 17";
        IslandOffice x = new IslandOffice();
        x.person(-18 * 52, 0, -1, 0);
        x.person(-18 * 52 + 1, 0, -1, 0);
        x.guest(-18 * 52, 0, 0, 400);
        x.guest(-18 * 52 + 1, 0, 0, 400);
        due("none", x.may(4, 0), -1);
        due("none", x.may(-1, 0), -1);
        due("subject -1", x.may(0, -1), -1);
        due("subject 4", x.may(0, 4), -1);
        due("v at 18", x.may(0, 0), 1);
        due("v below 18", x.may(1, 0), 0);
        due("v of a guest", x.may(2, 0), 1);
        due("v of a guest below 18", x.may(3, 0), 0);
        due("p: all", x.may(1, 1), 1);
        due("e: nobody", x.may(0, 2), 0);
        due("l: all", x.may(3, 3), 1);
        made(x, "e:k=5");
        made(x, "l:k=5");
        made(x, "p:k=5");
        made(x, "v:k=5");
        due("e not yet", x.may(2, 2), 0);
        x.store(0, 99);
        x.weeks(1);
        for (int s = 0; s < 4; s++) {
            due("guest", x.may(2, s), 1);
            due("person", x.may(0, s), 0);
        }
        x.death(0);
        due("gone", x.may(0, 0), -3);
        due("subject ahead of gone", x.may(0, 4), -1);
        due("away", goneAway().may(0, 0), -3);
    }

    private static void lawParts() {
        part = "promise 18";
        IslandOffice x = new IslandOffice();
        x.person(-1500, 0, -1, 0);
        x.person(-1500, 0, -1, 0);
        due("none", x.law(0, 0), -1);
        x.store(0, 99);
        x.store(1, 99);
        x.weeks(6);
        made(x, "l:a>1");
        due("what -1", x.law(0, -1), -1);
        due("what 6", x.law(0, 6), -1);
        due("law 1", x.law(1, 0), -1);
        due("law -1", x.law(-1, 0), -1);
        int[] want = {3, 7, 2, 2, 0, -2};
        for (int i = 0; i < 6; i++) {
            due("what " + i, x.law(0, i), want[i]);
        }
        made(x, "v:a>1");
        made(x, "p:a>1");
        made(x, "e:a>1");
        due("v", x.law(1, 0), 0);
        due("p", x.law(2, 0), 1);
        due("e", x.law(3, 0), 2);
        x.death(0);
        due("voters then", x.law(0, 3), 2);
    }

    private static void posts() {
        part = "promise 19";
        IslandOffice x = new IslandOffice();
        due("skill -1", x.post(-1, 1, 0), -1);
        due("skill 8", x.post(8, 1, 0), -1);
        due("hands 0", x.post(0, 0, 0), -1);
        due("hands 4", x.post(0, 4, 0), -1);
        due("sort -1", x.post(0, 1, -1), -1);
        due("sort 4", x.post(0, 1, 4), -1);
        for (int i = 0; i < 8; i++) {
            due("post", x.post(7 - i, 1 + i % 3, i % 4), i);
        }
        due("no room", x.post(0, 1, 0), -2);
        due("first refusal", x.post(0, 4, 0), -1);
        due("count", x.count(5), 8);
    }

    private static void opens() {
        part = "promise 20";
        IslandOffice x = new IslandOffice();
        due("none", x.open(0, true), -1);
        x.post(0, 1, 0);
        due("none", x.open(1, true), -1);
        due("none", x.open(-1, false), -1);
        due("open at first", x.open(0, true), 0);
        x.person(-1500, 0, -1, 1);
        due("filled", x.filled(), 1);
        due("closed", x.open(0, false), 1);
        due("closed already", x.open(0, false), 0);
        due("not filled", x.filled(), 0);
        due("nobody", x.hands(0, false), 0);
        due("open", x.open(0, true), 1);
        due("filled", x.filled(), 1);
    }

    private static void crews() {
        part = "promises 21, 22";
        IslandOffice x = new IslandOffice();
        due("none", x.hands(0, false), -1);
        x.post(0, 2, 0);
        x.post(1, 1, 0);
        due("none", x.hands(2, true), -1);
        due("none", x.hands(-1, true), -1);
        due("nobody", x.hands(0, false), 0);
        x.person(-1500, 0, -1, 3);
        x.person(-1500, 0, -1, 1);
        x.person(-1500, 0, -1, 1);
        due("both posts", x.filled(), 2);
        due("post 0", x.hands(0, false), 6);
        due("post 1", x.hands(1, false), 1);
        x.death(2);
        due("one post", x.filled(), 1);
        due("post 0 ahead", x.hands(0, false), 3);
        due("post 1 not", x.hands(1, false), 0);
        due("asked only", x.about(0, 7), -2);
        x.guest(-100, 0, 2, 400);
        due("a guest takes post 1", x.hands(1, false), 8);
        x.person(-100, 0, -1, 3);
        x.person(-4000, 0, -1, 3);
        due("no child, no old one", x.filled(), 2);
        due("post 0", x.hands(0, false), 3);
        moreCrews();
        manyHands();
    }

    private static void moreCrews() {
        IslandOffice x = new IslandOffice();
        // The most posts first: post 0 has three hands, posts 1 and 2 could have them.
        x.post(0, 3, 0);
        x.post(1, 1, 0);
        x.post(1, 2, 0);
        for (int p = 0; p < 3; p++) {
            x.person(-1500, 0, -1, 3);
        }
        due("two small ones", x.filled(), 2);
        due("post 0", x.hands(0, false), 0);
        due("post 1", x.hands(1, false), 1);
        due("post 2", x.hands(2, false), 6);
        IslandOffice y = new IslandOffice();
        // Least as bits: hands 0 and 1 are less than hands 0 and 2, and those less than 1 and 2.
        y.post(0, 2, 0);
        y.post(1, 1, 0);
        y.person(-1500, 0, -1, 1);
        y.person(-1500, 0, -1, 3);
        y.person(-1500, 0, -1, 1);
        due("post 0", y.hands(0, false), 5);
        due("post 1", y.hands(1, false), 2);
        made(y, "p:s=1");
        y.weeks(1);
        due("by the law: post 0", y.hands(0, false), 5);
        due("by the law: post 1", y.hands(1, false), 0);
        due("filled", y.filled(), 1);
        due("in the week before", y.about(1, 7), 1);
        due("in the week before", y.about(2, 7), 0);
        IslandOffice z = new IslandOffice();
        // One of posts 1 and 2 beside post 0: post 1, though post 2 would leave less hands.
        z.post(0, 1, 0);
        z.post(1, 2, 0);
        z.post(1, 1, 0);
        z.person(-1500, 0, -1, 1);
        z.person(-1500, 0, -1, 2);
        z.person(-1500, 0, -1, 2);
        due("posts 0, 1", z.filled(), 2);
        due("post 1", z.hands(1, false), 6);
        due("post 2", z.hands(2, false), 0);
        z.open(1, false);
        due("post 2 then", z.hands(2, false), 2);
    }

    private static void manyHands() {
        IslandOffice x = new IslandOffice();
        // Post by post, if ten can: post 0 takes the least, and post 1 gets none.
        x.post(0, 1, 0);
        x.post(1, 1, 0);
        x.post(2, 3, 0);
        x.person(-1500, 0, -1, 3);
        for (int p = 1; p < 9; p++) {
            x.person(-1500, 0, -1, 1);
        }
        due("nine can", x.filled(), 2);
        due("nine can: post 0", x.hands(0, false), 2);
        due("nine can: post 1", x.hands(1, false), 1);
        x.person(-1500, 0, -1, 1);
        due("ten can", x.filled(), 1);
        due("ten can: post 0", x.hands(0, false), 1);
        due("ten can: post 1", x.hands(1, false), 0);
        x.skill(9, 0, false);
        x.skill(9, 5, true);
        due("nine can, the tenth a skill that no post asks", x.filled(), 2);
        x.skill(9, 2, true);
        due("ten can, one for a post that isn't filled", x.filled(), 1);
        x.open(2, false);
        due("ten can, but not for an open one", x.filled(), 2);
        IslandOffice y = new IslandOffice();
        for (int p = 0; p < 40; p++) {
            y.person(-1500, 0, -1, p < 30 ? 0 : p < 31 ? 1 : 3);
        }
        y.post(0, 3, 0);
        y.post(1, 3, 0);
        y.post(1, 3, 0);
        y.post(1, 2, 0);
        due("filled", y.filled(), 3);
        due("post 0 low", y.hands(0, false), 0b11 << 30);
        due("post 0 high", y.hands(0, true), 1);
        due("post 1 low", y.hands(1, false), 0);
        due("post 1 high", y.hands(1, true), 0b1110);
        due("post 2 high", y.hands(2, true), 0b1110000);
        due("post 3: only one is free", y.hands(3, true), 0);
    }

    private static void stores() {
        part = "promise 23";
        IslandOffice x = new IslandOffice();
        due("good -1", x.store(-1, 1), -1);
        due("good 4", x.store(4, 1), -1);
        due("n 0", x.store(0, 0), -1);
        due("n 1001", x.store(0, 1001), -1);
        due("n 1000", x.store(3, 1000), 1000);
        for (int i = 2; i < 10; i++) {
            due("more", x.store(3, 1000), 1000 * i);
        }
        due("above", x.store(3, 1000), -2);
        due("9999", x.store(3, 999), 9999);
        due("above", x.store(3, 1), -2);
        due("another good", x.store(2, 1), 1);
    }

    private static void ranks() {
        part = "promise 24";
        IslandOffice x = new IslandOffice();
        due("good -1", x.rank(-1, 0, 1), -1);
        due("good 4", x.rank(4, 0, 1), -1);
        due("what -1", x.rank(0, -1, 1), -1);
        due("what 2", x.rank(0, 2, 1), -1);
        due("rank -1", x.rank(0, 0, -1), -1);
        due("rank 10", x.rank(0, 0, 10), -1);
        due("use -1", x.rank(1, 1, -1), -1);
        due("use 100", x.rank(1, 1, 100), -1);
        due("use of food", x.rank(0, 1, 1), -1);
        due("use of food", x.rank(0, 1, 0), -1);
        due("rank", x.rank(3, 0, 9), 3);
        due("rank", x.rank(3, 0, 0), 9);
        due("use", x.rank(3, 1, 99), 0);
        due("use", x.rank(3, 1, 0), 99);
        due("rank", x.rank(3, 0, 1), 0);
        x.store(2, 5);
        x.rank(2, 1, 4);
        due("lack of hay's use", x.lack(2, 5), 1);
        x.rank(2, 1, 5);
        x.weeks(1);
        due("it goes", x.store(2, 1), 1);
        x.weeks(1);
        due("what there is goes", x.store(2, 7), 7);
    }

    private static void orders() {
        part = "promises 25, 26";
        IslandOffice x = new IslandOffice();
        due("good -1", x.order(-1, 1), -1);
        due("good 4", x.order(4, 1), -1);
        due("n 0", x.order(0, 0), -1);
        due("n 501", x.order(0, 501), -1);
        due("due of none", x.due(0), -1);
        for (int i = 0; i < 30; i++) {
            due("order", x.order(i % 4, i == 0 ? 500 : i), i);
        }
        due("no room", x.order(0, 1), -2);
        due("first refusal", x.order(0, 501), -1);
        due("due", x.due(0), 500);
        due("due", x.due(29), 29);
        due("due -1", x.due(-1), -1);
        due("due 30", x.due(30), -1);
        due("count", x.count(6), 30);
        x.set(0, 500);
        x.weeks(5);
        due("came", x.due(0), 0);
        due("still no room", x.order(0, 1), -2);
    }

    private static void sets() {
        part = "promise 27";
        IslandOffice x = new IslandOffice();
        due("what -1", x.set(-1, 1), -1);
        due("what 4", x.set(4, 1), -1);
        int[] least = {0, 0, 0, 1};
        int[] most = {500, 9999, 99, 99};
        int[] first = {60, 50, 10, 12};
        for (int what = 0; what < 4; what++) {
            due("too small", x.set(what, least[what] - 1), -1);
            due("too great", x.set(what, most[what] + 1), -1);
            due("least", x.set(what, least[what]), first[what]);
            due("most", x.set(what, most[what]), least[what]);
            due("then", x.set(what, first[what]), most[what]);
        }
        due("wild", x.set(LOW, HIGH), -1);
    }

    private static void pays() {
        part = "promise 28";
        IslandOffice x = new IslandOffice();
        int[] orders = {5, 7, 11, 15, 19, 21};
        for (int n = -2; n < 60; n++) {
            boolean is = false;
            for (int o : orders) {
                is |= o == n;
            }
            if (!is) {
                due("pays " + n, x.pays(n), -1);
            }
        }
        due("as at first", x.pays(21), 0);
        for (int i = 0; i < 5; i++) {
            due("another", x.pays(orders[i]), 1);
            due("the same", x.pays(orders[i]), 0);
        }
        due("wild", x.pays(LOW), -1);
        due("wild", x.pays(HIGH), -1);
    }

    private static void earns() {
        part = "promise 29";
        IslandOffice x = new IslandOffice();
        due("n 0", x.earn(0), -1);
        due("n 10001", x.earn(10001), -1);
        due("n 1", x.earn(1), 1);
        for (int i = 1; i < 100; i++) {
            due("more", x.earn(10000), 1 + 10000 * i);
        }
        due("above", x.earn(10000), -2);
        due("1000000", x.earn(9999), 1000000);
        due("above", x.earn(1), -2);
        due("purse", x.count(8), 1000000);
        IslandOffice y = goneAway();
        for (int i = 0; i < 99; i++) {
            y.earn(10000);
        }
        y.earn(9995);
        y.pays(19);
        due("unpaid", y.count(10), 1);
        y.weeks(3);
        // 15 come, of which 10 are lost; a pension of 2 goes, and 5 to the fund.
        due("what would be above is lost", y.count(8), 999993);
    }

    private static void weathers() {
        part = "promises 30, 31";
        IslandOffice x = new IslandOffice();
        due("shelf -1", x.weather(-1, false), -1);
        due("shelf 8", x.weather(8, true), -1);
        due("nothing", x.weather(0, false), -11);
        x.person(-1500, 0, -1, 0);
        x.keep(0, 1, 0);
        due("a person", x.weather(0, false), -12);
        due("week -1", x.sky(-1, false), -1);
        due("week 401", x.sky(401, true), -1);
        due("at first", x.sky(0, false), 0);
        due("week 400", x.sky(400, true), 0);
        rowOf(x, 0, 0, 7, -128, 8, 5, -128, -128, -128, -128, 9, -128, -3, 2, 10, -128);
        due("size", x.weather(0, false), 14);
        int[] want = {7, 6, 8, 5, 0, 0, 0, 0, 9, 3, 0, 2, 10, 10, 0, 0};
        for (int w = 0; w < want.length; w++) {
            due("sky " + w, x.sky(w, false), want[w]);
        }
        due("rain is another", x.sky(0, true), 0);
        x.put(0, 0, 99);
        due("as it was then", x.sky(0, false), 7);
        rowOf(x, 1, 1, -128, -32768, 32767, 32766);
        due("rain", x.weather(1, true), 4);
        due("-128 isn't missing of shorts", x.sky(0, true), 0);
        due("mean", x.sky(1, true), (32767 + 32766) / 3);
        due("weather stays", x.sky(0, false), 7);
        rowOf(x, 1, 2, HIGH, LOW, HIGH, HIGH - 2);
        due("size", x.weather(1, true), 4);
        due("mean of ints", x.sky(1, true), HIGH - 1);
        due("int", x.sky(0, true), HIGH);
        x.row(1, 2, 0);
        due("an empty row", x.weather(1, true), 0);
        due("none", x.sky(0, true), 0);
        x.row(1, 0, 120);
        x.put(1, 119, -128);
        x.put(1, 118, 9);
        due("long", x.weather(1, true), 120);
        due("mean", x.sky(119, true), 3);
        due("behind", x.sky(120, true), 0);
    }

    private static void weekCounts() {
        part = "promise 32";
        IslandOffice x = new IslandOffice();
        due("n 0", x.weeks(0), -1);
        due("n 53", x.weeks(53), -1);
        due("n wild", x.weeks(HIGH), -1);
        x.person(-1000, 0, -1, 0);
        due("heads", x.weeks(1), 1);
        for (int i = 0; i < 7; i++) {
            due("a year", x.weeks(52), 0);
        }
        due("week", x.count(7), 365);
        due("beyond", x.weeks(36), -2);
        due("to the end", x.weeks(35), 0);
        due("beyond", x.weeks(1), -2);
        due("out of range ahead", x.weeks(0), -1);
        due("week", x.count(7), 400);
        due("born in week 400", x.person(400, 0, -1, 0), 1);
        due("guest", x.guest(400, 0, 0, 400), 2);
        due("a law from week 401 on", made(x, "v:a>1"), -3);
        x.person(-2000, 0, -1, 0);
        due("a law from week 401 on", made(x, "v:a>1"), 0);
        due("begins", x.law(0, 1), 401);
        due("never", x.force(0, 400), -2);
        due("repealed", x.repeal(0), 1);
        due("from", x.law(0, 5), 401);
    }

    private static void water() {
        part = "a week, 2 and 3";
        IslandOffice x = new IslandOffice();
        for (int p = 0; p < 3; p++) {
            x.person(-4000, 5, -1, 0);
        }
        x.house(5, 15, 2);
        x.house(6, 0, 9);
        rowOf(x, 0, 0, 1, 0, 4, 30, -128);
        x.weather(0, true);
        x.store(0, 99);
        x.weeks(1);
        due("20 + 2 - 18", x.home(5, 2), 4);
        due("not dry", x.home(5, 4), 0);
        due("20 + 9", x.home(6, 2), 29);
        x.weeks(1);
        due("empty", x.home(5, 2), 0);
        due("dry", x.home(5, 4), 1);
        x.weeks(1);
        due("8 aren't enough", x.home(5, 2), 0);
        x.weeks(1);
        due("0 + 60 - 18", x.home(5, 2), 42);
        due("200 at most", x.home(6, 2), 200);
        x.weeks(1);
        due("the month's mean: none", x.home(5, 2), 24);
        x.house(5, 15, 1);
        rowOf(x, 0, 2, 0, 0, 0, 0, 0, HIGH, -5);
        x.weather(0, true);
        x.weeks(1);
        due("much rain", x.home(5, 2), 200 - 18);
        due("much rain, no cattle", x.home(6, 2), 200);
        due("grass 500 at most", x.count(11), 500 - 15);
        x.weeks(1);
        due("below 0 is 0", x.home(5, 2), 200 - 36);
        IslandOffice y = new IslandOffice();
        y.house(0, 20, 3);
        y.weeks(1);
        due("just enough", y.home(0, 4), 0);
        due("empty", y.home(0, 2), 0);
    }

    private static void grass() {
        part = "a week, 4";
        IslandOffice x = new IslandOffice();
        for (int h = 0; h < 6; h++) {
            x.house(h, 18, 3);
        }
        x.store(2, 5);
        x.weeks(1);
        due("grass", x.count(11), 0);
        due("cattle of 0", x.home(0, 1), 18);
        due("cattle of 4", x.home(4, 1), 18);
        // The last house: 10 on grass, 5 on hay, 3 die.
        due("cattle of 5", x.home(5, 1), 15);
        due("hay", x.store(2, 18), 18);
        x.weeks(1);
        due("hay for house 0", x.home(0, 1), 18);
        due("none for house 1", x.home(1, 1), 0);
        due("hay", x.store(2, 1), 1);
        due("hay isn't lacking", x.lack(2, 3), -2);
        rowOf(x, 0, 0, 0, 0, 7);
        x.weather(0, true);
        x.weeks(1);
        due("grass grew, and hay was there", x.home(0, 1), 8);
        due("grass", x.count(11), 0);
    }

    private static void ship() {
        part = "stores, a week 6";
        IslandOffice x = new IslandOffice();
        x.order(3, 10);
        x.order(0, 40);
        x.order(1, 30);
        x.order(0, 25);
        x.rank(1, 0, 0);
        x.weeks(4);
        due("no ship in the first month", x.count(14), -2);
        due("due", x.due(1), 40);
        x.weeks(1);
        due("landed", x.count(14), 4);
        due("salt last", x.due(0), 10);
        due("food 40 of 60", x.due(1), 0);
        due("fuel of like rank, later: 20", x.due(2), 10);
        due("food behind it", x.due(3), 25);
        due("store", x.store(0, 1), 41);
        due("store", x.store(1, 1), 21);
        x.weeks(3);
        due("once a month", x.count(14), 4);
        due("fuel", x.due(2), 10);
        x.weeks(1);
        due("next month", x.count(14), 8);
        due("all comes", x.due(0) + x.due(1) + x.due(2) + x.due(3), 0);
        IslandOffice y = new IslandOffice();
        rowOf(y, 0, 0, 0, 0, 0, 0, 51, 51, 50, 0, 60, 60, 60, 60, 60);
        y.weather(0, false);
        y.weeks(6);
        due("too rough", y.count(14), -2);
        y.weeks(1);
        due("calm at 50", y.count(14), 6);
        y.weeks(5);
        due("not in this month", y.count(14), 6);
        y.set(1, 60);
        y.weeks(1);
        due("in the next, calm at 60", y.count(14), 12);
        IslandOffice z = new IslandOffice();
        for (int i = 0; i < 9; i++) {
            z.store(3, 1000);
        }
        z.store(3, 990);
        z.order(3, 50);
        z.weeks(5);
        due("all was loaded", z.due(0), 0);
        due("what would be above is lost", z.store(3, 1), -2);
        IslandOffice e = new IslandOffice();
        e.set(0, 0);
        e.order(0, 5);
        e.weeks(5);
        due("lands without room", e.count(14), 4);
        due("nothing loaded", e.due(0), 5);
        boats();
    }

    private static void boats() {
        IslandOffice x = new IslandOffice();
        x.person(-1500, 0, -1, 1);
        x.person(-1500, 0, -1, 1);
        x.post(0, 1, 3);
        x.post(0, 1, 3);
        x.set(2, 11);
        rowOf(x, 0, 0, 50, 51);
        x.weather(0, false);
        x.weeks(1);
        due("22 fish, 8 eaten", x.record(0, 2), 14);
        x.weeks(1);
        due("too rough", x.record(1, 2), 6);
        x.open(1, false);
        x.weeks(1);
        due("one boat", x.record(2, 2), 6 + 11 - 7);
        for (int i = 0; i < 9; i++) {
            x.store(0, 1000);
        }
        x.store(0, 985);
        x.weeks(1);
        due("what would be above is lost", x.record(3, 2), 9999 - 7);
        IslandOffice y = new IslandOffice();
        y.person(-1500, 0, -1, 1);
        y.post(0, 1, 0);
        y.store(0, 9);
        y.weeks(1);
        due("no boat, no fish", y.record(0, 2), 5);
    }

    private static void rationing() {
        part = "a week, 7 and 8";
        IslandOffice x = new IslandOffice();
        x.person(-1500, 0, -1, 0);
        x.person(-100, 0, -1, 0);
        x.guest(-1500, 0, 0, 400);
        x.store(0, 9);
        x.image();
        x.weeks(1);
        due("enough", x.record(0, 2), 0);
        for (int p = 0; p < 3; p++) {
            due("not hungry", x.about(p, 10), 0);
        }
        x.restore();
        x.store(0, 1);
        x.person(-1500, 1, -1, 0);
        // 10 for four: 2 each, then 1 more for the first two who need it.
        x.weeks(1);
        due("0", x.about(0, 10), 0);
        due("1", x.about(1, 10), 0);
        due("2", x.about(2, 10), 1);
        due("3", x.about(3, 10), 1);
        due("food", x.record(0, 2), 0);
        x.restore();
        made(x, "e:k=5|k=0");
        x.store(0, 90);
        x.weeks(1);
        due("food", x.store(0, 1), 91);
        IslandOffice y = new IslandOffice();
        y.person(-100, 0, -1, 0);
        y.person(-1500, 0, -1, 0);
        y.guest(-1500, 0, 0, 400);
        made(y, "e:k=5");
        y.store(0, 9);
        y.weeks(1);
        y.store(0, 6);
        y.weeks(1);
        // The guest has 4, of 2 each other one 1.
        due("child", y.about(0, 10), 1);
        due("person", y.about(1, 10), 1);
        due("guest", y.about(2, 10), 0);
        y.store(0, 3);
        y.weeks(1);
        due("as far as it goes", y.about(2, 10), 1);
        due("child", y.about(0, 10), 1);
        due("food", y.record(2, 2), 0);
        IslandOffice z = new IslandOffice();
        z.person(-100, 0, -1, 0);
        z.person(-100, 0, -1, 0);
        z.person(-100, 0, -1, 0);
        z.guest(-1500, 0, 1, 400);
        z.post(0, 1, 0);
        z.store(0, 10);
        z.weeks(1);
        // 2 each, and once 1 more for the guest, who needs 5: 1 is left.
        due("left", z.record(0, 2), 1);
        due("the guest", z.about(3, 10), 1);
        due("a child", z.about(0, 10), 0);
        due("lacking all the same", z.lack(0, 1), 1);
        fuel();
    }

    private static void fuel() {
        IslandOffice x = new IslandOffice();
        x.person(-1500, 0, -1, 0);
        x.person(-1500, 0, -1, 0);
        x.person(-1500, 3, -1, 0);
        x.store(0, 100);
        x.store(1, 8);
        x.rank(1, 1, 2);
        x.weeks(1);
        due("2 and 2 houses", x.store(1, 1), 5);
        due("lack", x.lack(1, 9), 2);
        x.weeks(1);
        due("discontent not yet", x.about(0, 6), 0);
        x.weeks(1);
        due("what there is", x.store(1, 1), 1);
        due("cold", x.about(0, 6), 1);
        IslandOffice y = new IslandOffice();
        y.rank(3, 1, 4);
        y.store(3, 9);
        due("salt", y.lack(3, 9), 2);
        due("fuel without heads", y.lack(1, 30), -2);
        y.weeks(3);
        due("what there is went", y.store(3, 1), 1);
    }

    private static void discontent() {
        part = "a week, 9";
        IslandOffice x = new IslandOffice();
        x.person(-1500, 0, -1, 1);
        x.person(-100, 1, 0, 0);
        x.person(-4000, 0, -1, 0);
        x.guest(-4000, 2, 0, 400);
        x.store(0, 99);
        x.store(1, 99);
        x.image();
        x.weeks(1);
        due("no school, no nurse", x.about(0, 6), 3);
        due("the child", x.about(1, 6), 0);
        due("the old one itself", x.about(2, 6), 1);
        due("an old guest needs no nurse", x.about(3, 6), 0);
        x.restore();
        x.post(0, 1, 1);
        x.weeks(1);
        due("a school", x.about(0, 6), 1);
        x.open(0, false);
        x.post(0, 1, 2);
        x.weeks(1);
        due("a nurse", x.about(0, 6), 3);
        due("the old one", x.about(2, 6), 0);
        x.death(2);
        x.death(1);
        x.weeks(1);
        due("less", x.about(0, 6), 2);
        x.weeks(3);
        due("0 at least", x.about(0, 6), 0);
        IslandOffice y = new IslandOffice();
        y.person(-1500, 0, -1, 0);
        y.house(0, 20, 3);
        y.store(1, 99);
        y.store(0, 5);
        y.weeks(1);
        due("dry", y.about(0, 6), 1);
        y.weeks(1);
        due("dry and hungry", y.about(0, 6), 4);
        y.set(3, 99);
        y.weeks(40);
        due("99 at most, then away", y.about(0, 6), 0);
        due("away", y.about(0, 5), 1);
        due("records", y.record(35, 0), 1);
        IslandOffice z = new IslandOffice();
        z.person(-1500, 0, -1, 0);
        made(z, "l:a>99");
        z.weeks(50);
        due("99 at most", z.about(0, 6), 99);
        due("by the law it stays", z.count(1), 1);
    }

    private static void purse() {
        part = "a week, 10";
        IslandOffice x = new IslandOffice();
        x.person(-1500, 0, -1, 1);
        x.guest(-1500, 0, 2, 400);
        x.person(-4000, 0, -1, 0);
        x.person(-4000, 0, -1, 0);
        x.post(0, 1, 0);
        x.post(1, 1, 0);
        x.store(0, 999);
        x.store(1, 99);
        x.weeks(3);
        x.earn(8);
        due("not yet", x.count(8), 8);
        x.image();
        x.weeks(1);
        // Wages 3, then 6 is too much; pensions 2 and 2; 1 is left.
        due("purse", x.count(8), 1);
        due("unpaid", x.count(10), 1);
        due("fund", x.count(9), 0);
        due("record", x.record(3, 3), 1);
        x.restore();
        x.pays(2 + 3 * 1);
        x.weeks(1);
        // The fund 5, a pension 2, then 1 is left.
        due("purse", x.count(8), 1);
        due("fund", x.count(9), 5);
        due("unpaid", x.count(10), 3);
        x.restore();
        x.pays(1 + 3 * 0 + 9 * 2);
        due("another order", x.pays(19), 0);
        x.weeks(1);
        due("pensions 4, wages 3", x.count(8), 1);
        due("unpaid", x.count(10), 1);
        x.restore();
        x.pays(7);
        due("pensions, fund, wages", x.pays(7), 0);
        x.weeks(1);
        due("purse", x.count(8), 1);
        due("unpaid: the guest", x.count(10), 1);
        due("4 aren't 5", x.count(9), 0);
        IslandOffice y = goneAway();
        due("unpaid", y.count(10), 1);
        y.weeks(3);
        due("15 came, 2 and 5 went", y.count(8), 8);
        due("fund", y.count(9), 5);
        y.weeks(4);
        due("and again", y.count(8), 16);
        due("unpaid", y.count(10), 1);
    }

    private static void leaving() {
        part = "a week, 11";
        IslandOffice x = new IslandOffice();
        x.person(-1500, 0, -1, 0);
        x.person(-1500, 0, -1, 1);
        x.person(-100, 1, 1, 0);
        x.person(-1500, 3, 1, 0);
        x.person(-4000, 2, -1, 0);
        x.guest(-1500, 2, 0, 400);
        x.person(-100, 2, 5, 0);
        made(x, "l:h>1|a<2");
        x.set(3, 15);
        x.weeks(4);
        // Hungry and cold: 3 a week; the mothers 2 more; with the old one 1 more.
        due("person", x.about(0, 6), 12);
        due("mother", x.about(1, 6), 20);
        due("child", x.about(2, 6), 12);
        due("old one", x.about(4, 6), 16);
        due("guest", x.about(5, 6), 24);
        due("heads", x.weeks(1), 6);
        due("one leaves, then the house has one head", x.about(0, 5), 1);
        due("so the next stays", x.about(1, 5), 0);
        x.set(3, 12);
        x.move(3, 0);
        x.weeks(3);
        due("only as the ship lands", x.count(1), 6);
        due("heads", x.weeks(1), 4);
        due("the mother", x.about(1, 5), 1);
        due("her child", x.about(2, 5), 1);
        due("its discontent", x.about(2, 6), 0);
        due("her grown-up one stays", x.about(3, 5), 0);
        due("the old one stays", x.about(4, 5), 0);
        due("the guest stays", x.about(5, 5), 0);
        due("the guest's child stays", x.about(6, 5), 0);
        IslandOffice y = new IslandOffice();
        y.person(-1500, 0, -1, 0);
        y.weeks(3);
        y.store(0, 99);
        y.store(1, 99);
        y.weeks(1);
        due("discontent", y.about(0, 6), 8);
        y.set(3, 8);
        y.weeks(1);
        due("below the limit", y.about(0, 5), 0);
        due("discontent", y.about(0, 6), 7);
        y.weeks(3);
        y.set(3, 3);
        y.weeks(1);
        due("at the limit", y.about(0, 5), 1);
    }

    private static void records() {
        part = "promise 33";
        IslandOffice x = new IslandOffice();
        due("not yet", x.record(0, 0), -3);
        due("week -1", x.record(-1, 0), -1);
        due("week 401", x.record(401, 0), -1);
        due("week 400", x.record(400, 0), -3);
        due("what -1", x.record(0, -1), -1);
        due("what 5", x.record(0, 5), -1);
        x.person(-1500, 0, -1, 1);
        x.person(-4000, 0, -1, 1);
        x.post(0, 1, 0);
        x.store(0, 100);
        x.earn(77);
        x.set(3, 1);
        x.weeks(5);
        int[] first = {2, 0, 94, 77, 1};
        int[] last = {1, 1, 70, 67, 1};
        for (int i = 0; i < 5; i++) {
            due("week 0: " + i, x.record(0, i), first[i]);
            due("week 4: " + i, x.record(4, i), last[i]);
            due("week 5: " + i, x.record(5, i), -3);
        }
        x.weeks(1);
        due("no post is filled", x.record(5, 4), 0);
        due("week 4 as it was", x.record(4, 4), 1);
        x.store(0, 1);
        due("week 5 as it was", x.record(5, 2), 68);
    }

    private static void worths() {
        part = "promise 34";
        IslandOffice x = new IslandOffice();
        due("none", x.worth(0, 1), -1001);
        x.person(-1500, 0, -1, 1);
        x.person(-100, 0, 0, 0);
        x.post(0, 1, 1);
        x.post(1, 1, 0);
        due("post 2", x.worth(2, 1), -1001);
        due("post -1", x.worth(-1, 1), -1001);
        due("n 0", x.worth(0, 0), -1001);
        due("n 31", x.worth(0, 31), -1001);
        x.store(0, 999);
        x.store(1, 99);
        x.set(3, 5);
        due("not within 4 weeks", x.worth(0, 4), 0);
        due("without a school both leave", x.worth(0, 5), 2);
        due("a post that isn't filled", x.worth(1, 30), 0);
        due("nothing happened", x.count(7), 0);
        due("it is open", x.open(0, true), 0);
        x.open(0, false);
        due("closed already", x.worth(0, 5), 0);
        due("still closed", x.open(0, false), 0);
        IslandOffice y = new IslandOffice();
        y.post(0, 1, 0);
        for (int i = 0; i < 7; i++) {
            y.weeks(52);
        }
        y.weeks(7);
        due("371 and 30", y.worth(0, 30), -1002);
        due("371 and 29", y.worth(0, 29), 0);
        due("out of range ahead", y.worth(0, 31), -1001);
        due("lack beyond", y.lack(0, 30), -1);
        due("lack to the end", y.lack(0, 29), -2);
        due("no record of what was in mind", y.record(371, 0), -3);
        IslandOffice z = new IslandOffice();
        // The post makes the hand eat more: so food lasts less long, and a person leaves.
        z.person(-1500, 0, -1, 1);
        z.person(-1500, 0, -1, 0);
        z.post(0, 1, 0);
        z.store(0, 30);
        z.store(1, 99);
        z.set(3, 2);
        z.weeks(1);
        due("below 0", z.worth(0, 4), -1);
    }

    private static void lacks() {
        part = "promise 35";
        IslandOffice x = new IslandOffice();
        due("good -1", x.lack(-1, 1), -1);
        due("good 4", x.lack(4, 1), -1);
        due("n 0", x.lack(0, 0), -1);
        due("n 31", x.lack(0, 31), -1);
        x.person(-1500, 0, -1, 0);
        x.store(0, 7);
        x.store(1, 4);
        due("food", x.lack(0, 30), 2);
        due("food", x.lack(0, 3), 2);
        due("not within 2", x.lack(0, 2), -2);
        due("fuel", x.lack(1, 30), 4);
        due("hay", x.lack(2, 30), -2);
        x.weeks(1);
        due("the week it is", x.lack(0, 30), 2);
        due("as before", x.count(7), 1);
        due("as before", x.store(0, 1), 5);
        due("not hungry", x.about(0, 10), 0);
    }

    private static void plans() {
        part = "promise 36";
        IslandOffice x = new IslandOffice();
        due("nobody: none is needed", x.plan(), 0);
        x.person(-4000, 0, -1, 0);
        x.store(0, 20);
        x.store(1, 30);
        // Two a week: 20 last ten weeks, 12 more last all sixteen.
        due("food", x.plan(), 200);
        due("no orders", x.count(6), 0);
        due("as before", x.store(0, 12), 32);
        due("enough", x.plan(), 0);
        IslandOffice y = new IslandOffice();
        y.person(-4000, 0, -1, 0);
        y.store(0, 32);
        y.store(1, 5);
        due("fuel: eleven more", y.plan(), 2);
        y.store(1, 1);
        due("fuel: ten more", y.plan(), 1);
        y.set(0, 9);
        // 9 in week 4, 1 more in week 8 (of two tens, too).
        due("with little room", y.plan(), 1);
        y.order(3, 500);
        y.rank(3, 0, 0);
        due("salt is first, so nothing comes", y.plan(), 0);
        IslandOffice z = new IslandOffice();
        z.person(-4000, 0, -1, 0);
        due("lacking at once", z.plan(), 0);
        for (int i = 0; i < 28; i++) {
            z.order(2, 1);
        }
        due("room for two", z.plan(), 0);
        z.order(2, 1);
        due("no room for two", z.plan(), -2);
        IslandOffice e = new IslandOffice();
        for (int i = 0; i < 32; i++) {
            e.weeks(12);
        }
        due("week 384", e.plan(), 0);
        e.weeks(1);
        due("week 385", e.plan(), -3);
        for (int i = 0; i < 29; i++) {
            e.order(2, 1);
        }
        due("room ahead of the week", e.plan(), -2);
        bothPlans();
    }

    private static void bothPlans() {
        IslandOffice x = new IslandOffice();
        // Both last to week 4; the ship of week 4 brings 20, food ahead.
        x.person(-1500, 0, -1, 0);
        x.rank(1, 1, 1);
        x.store(0, 15);
        x.store(1, 10);
        x.set(0, 20);
        // A ten of each lasts to week 7; with two tens of food no fuel comes in week 4.
        due("a ten of each", x.plan(), 101);
        IslandOffice y = new IslandOffice();
        // 15 and 12 a week; the ship of week 4 brings all.
        for (int p = 0; p < 5; p++) {
            y.person(-1500, p, -1, 0);
        }
        y.store(0, 70);
        y.rank(1, 1, 7);
        y.store(1, 60);
        y.set(0, 500);
        y.set(3, 99);
        // 170 of food last eleven weeks, 160 ten; 140 of fuel eleven weeks, 130 ten.
        due("all of food, some of fuel", y.plan(), 1008);
        y.rank(1, 1, 10);
        y.store(1, 10);
        due("all of both", y.plan(), 1010);
    }

    private static void images() {
        part = "promises 37, 38";
        IslandOffice x = new IslandOffice();
        due("none", x.restore(), -3);
        x.person(-1500, 0, -1, 1);
        x.post(0, 1, 0);
        x.weeks(3);
        due("taken", x.image(), 3);
        x.row(0, 0, 2);
        x.put(0, 0, 5);
        x.weather(0, false);
        x.weather(0, true);
        x.person(-1500, 0, -1, 1);
        made(x, "v:a>1");
        x.house(0, 5, 5);
        x.post(1, 1, 1);
        x.open(0, false);
        x.store(0, 100);
        x.order(0, 5);
        x.rank(0, 0, 9);
        x.set(0, 1);
        x.pays(5);
        x.earn(5);
        x.weeks(6);
        x.death(1);
        due("restored", x.restore(), 3);
        due("people", x.count(0), 1);
        due("laws", x.count(4), 0);
        due("posts", x.count(5), 1);
        due("open", x.open(0, true), 0);
        due("orders", x.count(6), 0);
        due("week", x.count(7), 3);
        due("purse", x.count(8), 0);
        due("landed", x.count(14), -2);
        due("grass", x.count(11), 100);
        due("cattle", x.home(0, 1), 0);
        due("roof", x.home(0, 3), 3);
        due("tank", x.home(0, 2), 17);
        due("store", x.store(0, 1), 1);
        due("rank", x.rank(0, 0, 0), 0);
        due("room", x.set(0, 60), 60);
        due("pays", x.pays(21), 0);
        due("sky", x.sky(0, false) + x.sky(0, true), 0);
        due("record", x.record(3, 0), -3);
        due("record", x.record(2, 0), 1);
        due("discontent", x.about(0, 6), 9);
        due("post", x.about(0, 7), 0);
        due("hungry", x.about(0, 10), 1);
        due("shelves stay", x.element(0, 0), 5);
        x.weeks(2);
        due("again", x.restore(), 3);
        x.weeks(2);
        due("taken anew", x.image(), 5);
        x.weeks(2);
        due("that one", x.restore(), 5);
        due("its record", x.record(4, 2), 0);
        lawsOfImages();
    }

    private static void lawsOfImages() {
        IslandOffice x = new IslandOffice();
        x.person(-1500, 0, -1, 1);
        made(x, "e:a>1");
        x.image();
        made(x, "l:a>99");
        x.found(0, 0);
        x.restore();
        due("not void", x.law(0, 4), 0);
        due("laws", x.count(4), 1);
        due("another law 1", made(x, "l:a<99"), 1);
        x.weeks(1);
        due("its text", x.may(0, 3), 1);
        due("the text of law 0", x.may(0, 2), 1);
        x.repeal(0);
        x.restore();
        due("not repealed", x.law(0, 5), -2);
        lawsKept();
        sameNumbersAnew();
    }

    /** What an image keeps of laws that others were made after. */
    private static void lawsKept() {
        IslandOffice x = new IslandOffice();
        x.person(-1500, 0, -1, 0);
        x.person(-1500, 0, -1, 0);
        x.person(-1500, 0, -1, 0);
        x.store(0, 900);
        x.store(1, 900);
        x.weeks(3);
        made(x, "v:a>17");
        x.weeks(1);
        made(x, "e:a>1&k=0");
        made(x, "e:a>2");
        x.image();
        x.found(2, 1);
        x.restore();
        int[][] want = {{0, 4, 3, 3, 0, -2}, {2, 5, 3, 3, 0, -2}, {2, 5, 3, 3, 0, -2}};
        for (int law = 0; law < 3; law++) {
            for (int what = 0; what < 6; what++) {
                due("law " + law + ": " + what, x.law(law, what), want[law][what]);
            }
        }
        x.keep(0, 2, 1);
        due("size of its text", x.weight(0), 1002 + 9);
        due("votes of its voters", x.found(1, 3), 0);
        due("in force from its week on", x.force(2, 4), -2);
        due("in force from its week on", x.force(2, 5), 2);
        due("both hang on it", x.found(0, 0), 3);
        IslandOffice y = new IslandOffice();
        y.person(-1500, 0, -1, 0);
        y.person(-1500, 1, -1, 1);
        y.post(0, 1, 3);
        y.store(0, 10);
        made(y, "p:k=5");
        // With fish in this week, and none later: 10 + 10 - 7, - 6, - 6, and 1 is left.
        due("a law of the week to come, in mind", y.lack(0, 9), 3);
        made(y, "p:a>1");
        due("the one behind it, in mind", y.lack(0, 30), -2);
    }

    /** Numbers that were used, and are used anew behind a restored image. */
    private static void sameNumbersAnew() {
        IslandOffice x = new IslandOffice();
        x.person(-1500, 0, -1, 1);
        x.image();
        x.person(-1500, 0, -1, 1);
        x.post(0, 1, 0);
        made(x, "e:a>90");
        x.repeal(0);
        due("one of the two", x.filled(), 1);
        x.weeks(1);
        due("hungry", x.about(1, 10), 1);
        due("discontent", x.about(1, 6), 3);
        x.found(0, 0);
        x.death(1);
        x.restore();
        due("the number anew", x.person(-1500, 0, -1, 1), 1);
        due("here", x.about(1, 5), 0);
        due("not hungry", x.about(1, 10), 0);
        due("content", x.about(1, 6), 0);
        due("no post", x.about(1, 7), -2);
        due("the law anew", made(x, "e:a>1"), 0);
        due("not void", x.law(0, 4), 0);
        due("not repealed", x.law(0, 5), -2);
        due("the post anew, with two hands", x.post(0, 2, 0), 0);
        due("filled by both", x.hands(0, false), 3);
        x.restore();
        due("anew, with one", x.post(0, 1, 0), 0);
        due("filled by one", x.hands(0, false), 1);
        x.open(0, false);
        x.restore();
        due("anew, with three", x.post(0, 3, 0), 0);
        due("open", x.open(0, true), 0);
        due("not filled", x.hands(0, false), 0);
    }

    private static void counts() {
        part = "promise 39";
        IslandOffice x = goneAway();
        due("-1", x.count(-1), -1);
        due("15", x.count(15), -1);
        due("people", x.count(0), 4);
        due("heads", x.count(1), 1);
        due("away", x.count(2), 3);
        due("gone", x.count(3), 0);
        due("voters", x.count(12), 1);
        due("need", x.count(13), 2);
        due("unpaid", x.count(10), 1);
        due("week", x.count(7), 5);
        due("landed", x.count(14), 4);
        x.death(2);
        x.back(0);
        due("away", x.count(2), 1);
        due("gone", x.count(3), 1);
        due("need", x.count(13), 5);
        due("voters", x.count(12), 2);
        x.guest(-1500, 0, 0, 400);
        due("voters", x.count(12), 2);
        due("need", x.count(13), 9);
    }

    private static void keeps() {
        part = "promise 40";
        IslandOffice x = goneAway();
        made(x, "v:a>1");
        due("shelf -1", x.keep(-1, 0, 0), -1);
        due("shelf 8", x.keep(8, 1, 0), -1);
        due("what -1", x.keep(0, -1, 0), -1);
        due("what 3", x.keep(0, 3, 0), -1);
        due("person 4", x.keep(0, 1, 4), -1);
        due("person -1", x.keep(0, 1, -1), -1);
        due("law 1", x.keep(0, 2, 1), -1);
        due("law -1", x.keep(0, 2, -1), -1);
        due("nothing came", x.weight(0), -11);
        due("one away", x.keep(0, 1, 0), 0);
        due("a law", x.keep(1, 2, 0), 0);
        due("nothing", x.keep(0, 0, LOW), 0);
        due("nothing", x.weight(0), -11);
        x.death(3);
        due("gone", x.keep(1, 1, 3), -3);
        due("the law is still there", x.weight(1), 1005);
        x.row(1, 0, 4);
        due("nothing for a row", x.keep(1, 0, 0), 0);
        due("no row", x.put(1, 0, 0), -11);
    }

    private static void rows() {
        part = "promises 41, 42";
        IslandOffice x = new IslandOffice();
        due("shelf -1", x.row(-1, 0, 1), -1);
        due("shelf 8", x.row(8, 0, 1), -1);
        due("sort -1", x.row(0, -1, 1), -1);
        due("sort 3", x.row(0, 3, 1), -1);
        due("n 121", x.row(0, 0, 121), -1);
        due("n -1", x.row(0, 0, -1), -14);
        due("n wild", x.row(0, 0, LOW), -14);
        due("sort ahead of size", x.row(0, 3, -1), -1);
        due("shelf -1", x.put(-1, 0, 1), -1);
        due("shelf 8", x.put(8, 0, 1), -1);
        due("nothing", x.put(0, 0, 1), -11);
        x.person(-1500, 0, -1, 0);
        x.keep(0, 1, 0);
        due("a person", x.put(0, 0, 1), -12);
        due("n 0", x.row(0, 0, 0), 0);
        due("no place", x.put(0, 0, 1), -13);
        due("n 120", x.row(0, 0, 120), 0);
        due("place 120", x.put(0, 120, 1), -13);
        due("place -1", x.put(0, -1, 1), -13);
        int[] in = {127, 128, -129, 256, HIGH, LOW, 40000};
        long[][] out = {{127, -128, 127, 0, -1, 0, 64}, {127, 128, -129, 256, -1, 0, -25536},
            {127, 128, -129, 256, HIGH, LOW, 40000}};
        for (int sort = 0; sort < 3; sort++) {
            x.row(1, sort, 7);
            due("0 at first", x.element(1, 6), 0);
            for (int i = 0; i < 7; i++) {
                due("put", x.put(1, i, in[i]), 0);
                due("element", x.element(1, i), out[sort][i]);
            }
        }
        due("a new row", x.row(1, 2, 7), 0);
        due("0 again", x.element(1, 0), 0);
    }

    private static String thrown(IslandOffice x, int d, int i) {
        try {
            x.element(d, i);
            return "nothing";
        } catch (RuntimeException e) {
            return e.getClass().getSimpleName();
        }
    }

    private static void throwsDue(String call, String got, String want) {
        due(call + " throws " + got, got.equals(want) ? 1 : 0, 1);
    }

    private static void elements() {
        part = "promise 43";
        IslandOffice x = new IslandOffice();
        throwsDue("shelf -1", thrown(x, -1, 0), "IllegalArgumentException");
        throwsDue("shelf 8", thrown(x, 8, 0), "IllegalArgumentException");
        throwsDue("nothing", thrown(x, 0, 0), "IllegalStateException");
        x.person(-1500, 0, -1, 0);
        x.keep(0, 1, 0);
        throwsDue("a person", thrown(x, 0, 0), "IllegalStateException");
        made(x, "v:a>1");
        x.keep(0, 2, 0);
        throwsDue("a law", thrown(x, 0, 0), "IllegalStateException");
        x.row(0, 2, 3);
        throwsDue("place -1", thrown(x, 0, -1), "IllegalStateException");
        throwsDue("place 3", thrown(x, 0, 3), "IllegalStateException");
        throwsDue("place wild", thrown(x, 0, HIGH), "IllegalStateException");
        throwsDue("place 2", thrown(x, 0, 2), "nothing");
        x.put(0, 2, LOW);
        due("element", x.element(0, 2), LOW);
    }

    private static void copies() {
        part = "promise 44";
        IslandOffice x = new IslandOffice();
        due("shelf -1", x.copy(-1, 0, 0, 0, 0), -1);
        due("shelf 8", x.copy(0, 0, 8, 0, 0), -1);
        due("nothing", x.copy(0, 0, 1, 0, 0), -11);
        rowOf(x, 0, 0, 1, 2, 3, 4, 5);
        due("nothing in e", x.copy(0, 0, 1, 0, 0), -11);
        due("nothing in d", x.copy(1, 0, 0, 0, 0), -11);
        x.person(-1500, 0, -1, 0);
        x.keep(1, 1, 0);
        due("a person in e", x.copy(0, 0, 1, 0, 0), -12);
        due("a person in d", x.copy(1, 0, 0, 0, 0), -12);
        due("nothing ahead of a person", x.copy(1, 0, 2, 0, 0), -11);
        x.row(1, 1, 5);
        due("sorts", x.copy(0, 0, 1, 0, 0), -12);
        rowOf(x, 1, 0, 9, 9, 9);
        due("i -1", x.copy(0, -1, 1, 0, 1), -13);
        due("j -1", x.copy(0, 0, 1, -1, 1), -13);
        due("n -1", x.copy(0, 0, 1, 0, -1), -13);
        due("too many of d", x.copy(0, 3, 1, 0, 3), -13);
        due("too many for e", x.copy(0, 0, 1, 1, 3), -13);
        due("wild", x.copy(0, HIGH, 1, HIGH, HIGH), -13);
        due("n 0 at the end", x.copy(0, 5, 1, 3, 0), 0);
        due("n 0 behind the end", x.copy(0, 6, 1, 0, 0), -13);
        due("refused", x.element(1, 0), 9);
        due("copied", x.copy(0, 3, 1, 1, 2), 2);
        due("9", x.element(1, 0), 9);
        due("4", x.element(1, 1), 4);
        due("5", x.element(1, 2), 5);
        due("onto itself, up", x.copy(0, 0, 0, 1, 4), 4);
        int[] up = {1, 1, 2, 3, 4};
        for (int i = 0; i < 5; i++) {
            due("up", x.element(0, i), up[i]);
        }
        due("onto itself, down", x.copy(0, 2, 0, 0, 3), 3);
        int[] down = {2, 3, 4, 3, 4};
        for (int i = 0; i < 5; i++) {
            due("down", x.element(0, i), down[i]);
        }
    }

    private static void weights() {
        part = "promise 45";
        IslandOffice x = goneAway();
        due("shelf -1", x.weight(-1), -1);
        due("shelf 8", x.weight(8), -1);
        due("nothing", x.weight(0), -11);
        x.row(0, 0, 1);
        due("a row", x.weight(0), -12);
        x.keep(0, 1, 0);
        due("one away", x.weight(0), 13);
        x.keep(1, 1, 3);
        due("an old one", x.weight(1), 18);
        x.back(0);
        x.back(1);
        x.back(2);
        due("away as then", x.weight(0), 13);
        x.keep(0, 1, 0);
        due("a person", x.weight(0), 13);
        x.keep(2, 1, 1);
        due("a child of 10", x.weight(2), 10 + 2 + 1 + 10);
        x.post(0, 1, 0);
        x.guest(-100, 9, 2, 400);
        x.post(1, 1, 0);
        x.store(0, 999);
        x.weeks(1);
        due("in a post", x.about(2, 7), 0);
        x.keep(3, 1, 2);
        due("a hand, without a post", x.weight(3), 15);
        x.keep(4, 1, 4);
        due("a guest, without a post", x.weight(4), 38);
        x.weeks(52);
        due("the child as then", x.weight(2), 23);
        made(x, "e:a>1&k=5");
        x.keep(5, 2, 0);
        due("a law", x.weight(5), 1000 + 2 + 9);
        made(x, "p:a>1");
        x.keep(5, 2, 1);
        due("a law", x.weight(5), 1000 + 1 + 5);
    }

    private static void tosses() {
        part = "promise 46";
        IslandOffice x = goneAway();
        due("shelf -1", x.toss(-1), -1);
        due("shelf 8", x.toss(8), -1);
        due("nothing", x.toss(0), -11);
        x.row(0, 0, 1);
        due("a row", x.toss(0), -12);
        x.keep(0, 1, 0);
        due("away", x.toss(0), -15);
        x.back(0);
        due("away as then", x.toss(0), -15);
        x.move(0, 11);
        x.keep(0, 1, 0);
        due("house", x.toss(0), 11);
        x.move(0, 3);
        due("house as then", x.toss(0), 11);
        x.guest(-1500, 4, 0, 400);
        x.keep(1, 1, 4);
        due("a guest's", x.toss(1), 104);
        x.death(4);
        due("gone since", x.toss(1), 104);
        x.image();
        made(x, "e:a>1");
        x.keep(2, 2, 0);
        due("voters", x.toss(2), 2);
        x.found(0, 1);
        due("void now", x.toss(2), -15);
        x.restore();
        due("no such law now", x.toss(2), 2);
        made(x, "p:a>1");
        due("another law of that number", x.toss(2), 2);
        x.found(0, 0);
        due("another law of that number, void", x.toss(2), -15);
        x.keep(3, 2, 0);
        due("kept as void", x.toss(3), -15);
    }
}
