/** Term 3 and promises 19 to 22: each sentence that names an edge. */
public final class PostEdgeTest {
    private static final int YEAR = 52;
    private static long chance = 1;

    public static void main(String[] args) {
        postRefusals();
        openRefusals();
        handsRefusals();
        whoCan();
        allOrNone();
        oneAtMost();
        mostPosts();
        setOfPosts();
        leastHands();
        nineAndTen();
        whoCountsAmongTen();
        whoDoesNotCount();
        postByPost();
        highHands();
        lawOfPosts();
        byAllWays();
        ofLikeHands();
        Checks.end();
    }

    private static void due(String call, long got, long want) {
        Checks.due(call, got, want);
    }

    private static void postRefusals() {
        Checks.says("POSTS 0 .. 7 as they come: a SKILL, how many HANDS (1 .. 3), a SORT: 0 .. 3; -1; -2: there are 8");
        IslandOffice x = new IslandOffice();
        due("skill -1", x.post(-1, 1, 0), -1);
        due("skill 8", x.post(8, 1, 0), -1);
        due("hands 0", x.post(0, 0, 0), -1);
        due("hands 4", x.post(0, 4, 0), -1);
        due("sort -1", x.post(0, 1, -1), -1);
        due("sort 4", x.post(0, 1, 4), -1);
        due("skill 0, hands 1, sort 0", x.post(0, 1, 0), 0);
        due("skill 7, hands 3, sort 3", x.post(7, 3, 3), 1);
        for (int i = 2; i < 8; i++) {
            due("post", x.post(i, 1, 0), i);
        }
        due("the ninth", x.post(0, 1, 0), -2);
        x.open(3, false);
        due("closed ones keep their numbers", x.post(0, 1, 0), -2);
        due("posts", x.count(5), 8);
    }

    private static void openRefusals() {
        Checks.says("A POST is OPEN, or closed: 1 if it was otherwise, else 0. -1; OPEN (at first)");
        IslandOffice x = new IslandOffice();
        due("no post", x.open(0, false), -1);
        for (int i = 0; i < 8; i++) {
            x.post(0, 1, 0);
        }
        due("-1", x.open(-1, false), -1);
        due("8", x.open(8, false), -1);
        for (int i = 0; i < 8; i++) {
            due("OPEN at first", x.open(i, true), 0);
            due("closed", x.open(i, false), 1);
            due("closed already", x.open(i, false), 0);
            due("OPEN", x.open(i, true), 1);
        }
    }

    private static void handsRefusals() {
        Checks.says("HANDS of a POST if POSTS were FILLED now; 0: it isn't FILLED. -1");
        IslandOffice x = new IslandOffice();
        due("no post", x.hands(0, false), -1);
        due("no post", x.hands(0, true), -1);
        due("filled", x.filled(), 0);
        for (int i = 0; i < 8; i++) {
            x.post(i, 1, 0);
        }
        due("-1", x.hands(-1, false), -1);
        due("8", x.hands(8, false), -1);
        due("0", x.hands(0, false), 0);
        due("7", x.hands(7, true), 0);
        x.person(-1500, 0, -1, 255);
        due("low", x.hands(0, false), 1);
        due("high", x.hands(0, true), 0);
        due("asking fills nothing", x.about(0, 7), -2);
        x.open(0, false);
        due("closed", x.hands(0, false), 0);
        due("the next", x.hands(1, false), 1);
        due("filled", x.filled(), 1);
    }

    private static void whoCan() {
        Checks.says("HANDS and GUESTS here for whom p's LAW holds CAN take POSTS of a SKILL that they have");
        int[] births = {-16 * YEAR + 1, -16 * YEAR, -65 * YEAR + 1, -65 * YEAR, 0};
        int[] can = {0, 1, 1, 0, 0};
        for (int i = 0; i < births.length; i++) {
            IslandOffice x = new IslandOffice();
            x.post(3, 1, 0);
            x.person(births[i], 0, -1, 8);
            due("born in " + births[i], x.filled(), can[i]);
            IslandOffice y = new IslandOffice();
            y.post(3, 1, 0);
            y.guest(births[i], 0, 8, 9);
            due("a guest born in " + births[i], y.filled(), 1);
            y.death(0);
            due("gone", y.filled(), 0);
        }
        for (int skill = 0; skill < 8; skill++) {
            IslandOffice x = new IslandOffice();
            x.post(skill, 1, 0);
            x.person(-1500, 0, -1, 255 - (1 << skill));
            x.guest(-1500, 0, 0, 9);
            due("without skill " + skill, x.filled(), 0);
            x.skill(0, skill, true);
            due("with skill " + skill, x.hands(0, false), 1);
            x.skill(0, skill, false);
            x.skill(1, skill, true);
            due("a guest with skill " + skill, x.hands(0, false), 2);
        }
        IslandOffice away = Checks.someAway();
        away.post(0, 1, 0);
        due("away", away.filled(), 0);
        away.back(2);
        due("back", away.filled(), 1);
    }

    private static void allOrNone() {
        Checks.says("a POST has all its HANDS or none");
        for (int hands = 1; hands <= 3; hands++) {
            for (int there = 0; there <= 4; there++) {
                IslandOffice x = new IslandOffice();
                x.post(0, hands, 0);
                for (int p = 0; p < there; p++) {
                    x.person(-1500, 0, -1, 1);
                }
                due(there + " for " + hands, x.filled(), there >= hands ? 1 : 0);
                due(there + " for " + hands, x.hands(0, false), there >= hands ? (1 << hands) - 1 : 0);
            }
        }
    }

    private static void oneAtMost() {
        Checks.says("one at most");
        IslandOffice x = new IslandOffice();
        for (int i = 0; i < 8; i++) {
            x.post(0, 1, 0);
        }
        for (int there = 0; there <= 9; there++) {
            due(there + " for 8 posts", x.filled(), Math.min(8, there));
            for (int i = 0; i < 8; i++) {
                due(there + ": post " + i, x.hands(i, false), i < there ? 1 << i : 0);
            }
            x.person(-1500, 0, -1, 1);
        }
    }

    private static void mostPosts() {
        Checks.says("Of all ways that by which the most POSTS are FILLED");
        IslandOffice x = new IslandOffice();
        x.post(0, 3, 0);
        x.post(0, 1, 0);
        x.post(0, 1, 0);
        x.post(0, 1, 0);
        for (int p = 0; p < 3; p++) {
            x.person(-1500, 0, -1, 1);
        }
        due("three of one hand each", x.filled(), 3);
        due("not post 0", x.hands(0, false), 0);
        x.open(3, false);
        due("two of one hand each", x.filled(), 2);
        due("not post 0", x.hands(0, false), 0);
        x.open(2, false);
        due("one", x.filled(), 1);
        due("then post 0", x.hands(0, false), 7);
        x.person(-1500, 0, -1, 1);
        due("a fourth hand", x.filled(), 2);
        due("post 1", x.hands(1, false), 8);
        int[] six = {3, 3, 2, 2, 2};
        int[] three = {0, 0, 0b11, 0b1100, 0b110000};
        int[] five = {3, 2, 2, 1, 1, 1, 1, 1};
        int[] lastFive = {0, 0, 0, 1, 2, 4, 8, 16};
        int[] nine = {3, 3, 3, 2, 2, 2, 2};
        int[] four = {0b111, 0, 0, 0b11000, 0b1100000, 0b110000000, 0};
        int[] eight = {3, 3, 3, 3, 2, 2, 2, 2};
        int[] lastFour = {0, 0, 0, 0, 0b11, 0b1100, 0b110000, 0b11000000};
        crews(6, six, three);
        crews(5, five, lastFive);
        crews(9, nine, four);
        crews(8, eight, lastFour);
    }

    /** So many people of one skill, and posts of so many hands: who takes each. */
    private static void crews(int people, int[] hands, int[] want) {
        IslandOffice x = new IslandOffice();
        for (int p = 0; p < people; p++) {
            x.person(-1500, 0, -1, 1);
        }
        for (int n : hands) {
            x.post(0, n, 0);
        }
        for (int i = 0; i < hands.length; i++) {
            due(people + " people, post " + i, x.hands(i, false), want[i]);
        }
    }

    private static void setOfPosts() {
        Checks.says("of these one whose set of POSTS has POST 0, if one can; then POST 1, and so on");
        IslandOffice x = new IslandOffice();
        x.post(0, 2, 0);
        x.post(1, 2, 0);
        x.post(0, 1, 0);
        x.post(1, 1, 0);
        x.person(-1500, 0, -1, 3);
        x.person(-1500, 0, -1, 3);
        due("two of 2, 3", x.filled(), 2);
        due("2", x.hands(2, false), 1);
        due("3", x.hands(3, false), 2);
        x.person(-1500, 0, -1, 1);
        // Of three hands: 0 and 2, 0 and 3, 1 and 2, 2 and 3 can be FILLED; 0 is first, then 2.
        due("two", x.filled(), 2);
        due("0", x.hands(0, false), 3);
        due("1", x.hands(1, false), 0);
        due("2", x.hands(2, false), 4);
        due("3", x.hands(3, false), 0);
        x.open(2, false);
        due("0", x.hands(0, false), 5);
        due("3", x.hands(3, false), 2);
    }

    private static void leastHands() {
        Checks.says("of these the one in which POST 0 has the least set of HANDS (as bits by their numbers), then POST 1");
        IslandOffice x = new IslandOffice();
        x.post(0, 2, 0);
        x.post(1, 1, 0);
        x.person(-1500, 0, -1, 3);
        x.person(-1500, 0, -1, 1);
        x.person(-1500, 0, -1, 3);
        x.person(-1500, 0, -1, 1);
        due("0, 1 are less than 1, 3", x.hands(0, false), 3);
        due("then 2", x.hands(1, false), 4);
        x.skill(2, 1, false);
        due("0 for post 1, so 1, 2", x.hands(0, false), 6);
        due("0", x.hands(1, false), 1);
        x.skill(3, 1, true);
        due("0, 1 again", x.hands(0, false), 3);
        due("3", x.hands(1, false), 8);
        IslandOffice y = new IslandOffice();
        y.post(0, 2, 0);
        for (int p = 0; p < 4; p++) {
            y.person(-1500, 0, -1, 1);
        }
        y.skill(0, 0, false);
        due("1, 2 are less than 1, 3 and 2, 3", y.hands(0, false), 6);
        y.skill(0, 0, true);
        y.skill(1, 0, false);
        due("0, 2", y.hands(0, false), 5);
        y.skill(2, 0, false);
        due("0, 3", y.hands(0, false), 9);
    }

    /** Post 0 of skill 0, post 1 of skill 1; person 0 has both skills, the others skill 0. */
    private static IslandOffice withHands(int n) {
        IslandOffice x = new IslandOffice();
        x.post(0, 1, 0);
        x.post(1, 1, 0);
        x.person(-1500, 0, -1, 3);
        for (int p = 1; p < n; p++) {
            x.person(-1500, 0, -1, 1);
        }
        return x;
    }

    private static void nineAndTen() {
        Checks.says("if 9 at most CAN take any that is OPEN. If more CAN: POST by POST the least HANDS that are free");
        for (int n = 2; n <= 12; n++) {
            IslandOffice x = withHands(n);
            due(n + " can: filled", x.filled(), n <= 9 ? 2 : 1);
            due(n + " can: post 0", x.hands(0, false), n <= 9 ? 2 : 1);
            due(n + " can: post 1", x.hands(1, false), n <= 9 ? 1 : 0);
        }
    }

    private static void whoCountsAmongTen() {
        Checks.says("9 at most CAN take any that is OPEN");
        IslandOffice x = withHands(9);
        due("nine", x.filled(), 2);
        x.person(-1500, 0, -1, 4 + 8 + 128);
        due("a tenth with other skills", x.filled(), 2);
        x.person(-100, 0, -1, 1);
        x.person(-4000, 0, -1, 1);
        x.person(-1500, 0, -1, 0);
        due("a child, an old one, a person", x.filled(), 2);
        x.post(2, 3, 0);
        due("a tenth for a POST that can't be FILLED", x.filled(), 1);
        x.open(2, false);
        due("that one closed", x.filled(), 2);
        x.open(2, true);
        x.death(8);
        due("nine again", x.filled(), 2);
        x.guest(-1500, 0, 2, 9);
        due("a guest is the tenth", x.filled(), 2);
        due("who takes post 1", x.hands(1, false), 1 << 13);
        x.skill(13, 1, false);
        due("nine", x.hands(0, false), 2);
        x.skill(13, 0, true);
        due("ten", x.hands(0, false), 1);
        Checks.law(x, "p:a<90&!k=5");
        x.store(0, 1000);
        x.weeks(1);
        due("by p's LAW nine", x.hands(0, false), 2);
    }

    private static void whoDoesNotCount() {
        Checks.says("9 at most CAN take any that is OPEN: who has a SKILL that none asks doesn't count");
        for (int skill = 0; skill < 6; skill++) {
            for (int odd = 0; odd < 10; odd++) {
                IslandOffice x = new IslandOffice();
                x.post(6, 1, 0);
                x.post(7, 1, 0);
                int both = odd == 0 ? 1 : 0;
                for (int p = 0; p < 10; p++) {
                    x.person(-1500, 0, -1, p == odd ? 1 << skill : p == both ? 192 : 64);
                }
                due("nine can, " + odd + " has skill " + skill, x.filled(), 2);
                due("post 1", x.hands(1, false), 1 << both);
                x.skill(odd, 6, true);
                due("ten can", x.filled(), odd == 0 ? 2 : 1);
            }
        }
    }

    private static void postByPost() {
        Checks.says("POST by POST the least HANDS that are free, if there are enough");
        IslandOffice x = new IslandOffice();
        for (int p = 0; p < 10; p++) {
            x.person(-1500, 0, -1, p < 4 ? 1 : p < 6 ? 3 : 4);
        }
        x.post(0, 3, 0);
        x.post(0, 3, 0);
        x.post(0, 1, 0);
        x.post(1, 1, 0);
        x.post(2, 3, 0);
        x.post(2, 2, 0);
        int[] want = {0b111, 0b111000, 0, 0, 0b111000000, 0};
        due("filled", x.filled(), 3);
        for (int i = 0; i < 6; i++) {
            due("post " + i, x.hands(i, false), want[i]);
        }
        x.skill(5, 0, false);
        // Two are free for post 1, which asks three; so they are free for posts 2 and 3.
        int[] then = {0b111, 0, 0b1000, 0b10000, 0b111000000, 0};
        due("filled", x.filled(), 4);
        for (int i = 0; i < 6; i++) {
            due("post " + i, x.hands(i, false), then[i]);
        }
    }

    private static void highHands() {
        Checks.says("as bits of PEOPLE 0 .. 31 (low) or 32 .. 39 (high true)");
        for (int only = 0; only < 40; only++) {
            IslandOffice x = new IslandOffice();
            x.post(0, 1, 0);
            for (int p = 0; p < 40; p++) {
                x.person(-1500, 0, -1, p == only ? 1 : 2);
            }
            due("low, " + only, x.hands(0, false), only < 32 ? 1 << only : 0);
            due("high, " + only, x.hands(0, true), only < 32 ? 0 : 1 << only - 32);
        }
        IslandOffice y = new IslandOffice();
        y.post(0, 3, 0);
        for (int p = 0; p < 40; p++) {
            y.person(-1500, 0, -1, p < 30 ? 0 : 1);
        }
        due("ten: low", y.hands(0, false), 0b11 << 30);
        due("ten: high", y.hands(0, true), 1);
        y.death(30);
        due("nine: low", y.hands(0, false), 1 << 31);
        due("nine: high", y.hands(0, true), 3);
        y.death(31);
        due("eight: low", y.hands(0, false), 0);
        due("eight: high", y.hands(0, true), 7);
        y.store(0, 1000);
        y.weeks(1);
        due("held", y.about(32, 7) + y.about(34, 7), 0);
        due("not held", y.about(35, 7), -2);
    }

    private static void lawOfPosts() {
        Checks.says("for whom p's LAW holds (by LAWS IN FORCE in w)");
        IslandOffice x = Checks.settled(1);
        x.person(-1500, 0, -1, 1);
        x.person(-1500, 0, -1, 3);
        x.guest(-1500, 0, 1, 400);
        x.post(0, 1, 0);
        x.post(0, 1, 0);
        x.post(0, 1, 0);
        due("all", x.filled(), 3);
        Checks.law(x, "p:s=1&k=2");
        due("still", x.filled(), 3);
        x.weeks(1);
        due("week 0", x.record(0, 4), 3);
        due("by the law", x.filled(), 1);
        due("post 0", x.hands(0, false), 1);
        x.weeks(1);
        due("week 1", x.record(1, 4), 1);
        due("held", x.about(1, 7), -2);
        x.repeal(0);
        due("until the next week", x.filled(), 1);
        x.weeks(1);
        due("week 2", x.record(2, 4), 1);
        due("then all", x.filled(), 3);
    }

    private static int some(int n) {
        chance = chance * 6364136223846793005L + 1442695040888963407L;
        return (int) ((chance >>> 33) % n);
    }

    private static void byAllWays() {
        Checks.says("Of all ways .. (tried one by one)");
        for (int run = 0; run < 300; run++) {
            int people = 1 + some(6);
            int posts = 1 + some(run % 3 == 0 ? 5 : 4);
            IslandOffice x = new IslandOffice();
            int[] skills = new int[people];
            int[] asks = new int[posts];
            int[] hands = new int[posts];
            for (int p = 0; p < people; p++) {
                skills[p] = some(8);
                x.person(-1500, 0, -1, skills[p]);
            }
            for (int i = 0; i < posts; i++) {
                asks[i] = some(3);
                hands[i] = 1 + some(3);
                x.post(asks[i], hands[i], 0);
            }
            int[] best = bestWay(skills, asks, hands);
            for (int i = 0; i < posts; i++) {
                due("run " + run + ", post " + i, x.hands(i, false), best[i]);
            }
        }
    }

    /** Puts each person at each post or at none, and takes the way that the sentences ask for. */
    private static int[] bestWay(int[] skills, int[] asks, int[] hands) {
        int posts = asks.length;
        int[] best = new int[posts];
        int ways = 1;
        for (int p = 0; p < skills.length; p++) {
            ways *= posts + 1;
        }
        for (int way = 0; way < ways; way++) {
            int[] crew = new int[posts];
            boolean fits = true;
            int rest = way;
            for (int p = 0; p < skills.length; p++) {
                int at = rest % (posts + 1);
                rest /= posts + 1;
                if (at < posts) {
                    fits &= (skills[p] >> asks[at] & 1) == 1;
                    crew[at] |= 1 << p;
                }
            }
            for (int i = 0; i < posts; i++) {
                fits &= crew[i] == 0 || Integer.bitCount(crew[i]) == hands[i];
            }
            if (fits && isBetter(crew, best)) {
                best = crew;
            }
        }
        return best;
    }

    private static boolean isBetter(int[] a, int[] b) {
        int more = 0;
        for (int i = 0; i < a.length; i++) {
            more += (a[i] != 0 ? 1 : 0) - (b[i] != 0 ? 1 : 0);
        }
        if (more != 0) {
            return more > 0;
        }
        for (int i = 0; i < a.length; i++) {
            if ((a[i] != 0) != (b[i] != 0)) {
                return a[i] != 0;
            }
        }
        for (int i = 0; i < a.length; i++) {
            if (a[i] != b[i]) {
                return a[i] < b[i];
            }
        }
        return false;
    }

    private static void ofLikeHands() {
        Checks.says("the same hands, other POSTS: what is asked again is found anew");
        IslandOffice x = new IslandOffice();
        x.person(-1500, 0, -1, 3);
        x.person(-1500, 0, -1, 3);
        x.image();
        x.post(0, 1, 0);
        due("one hand", x.hands(0, false), 1);
        x.restore();
        x.post(0, 2, 0);
        due("two hands", x.hands(0, false), 3);
        x.restore();
        x.post(1, 3, 0);
        due("three hands", x.filled(), 0);
        x.restore();
        x.post(1, 2, 0);
        due("two hands of another skill", x.hands(0, false), 3);
        x.restore();
        due("none", x.filled(), 0);
        x.post(0, 3, 0);
        x.post(0, 2, 0);
        due("post 1", 10 * x.hands(0, false) + x.hands(1, false), 3);
        x.restore();
        for (int hands = 1; hands <= 3; hands++) {
            for (int i = 0; i < 8; i++) {
                x.post(0, hands, 0);
            }
            int[] want = {2, 1, 0};
            due("eight of " + hands, x.filled(), want[hands - 1]);
            x.restore();
        }
    }
}
