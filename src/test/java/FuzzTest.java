import java.util.Random;

/** Runs of calls made by chance (from fixed seeds), each answer held against that of the Oracle. */
public final class FuzzTest {
    private static final int CALLS = 512;
    private static final String[] NAMES = {"person", "guest", "birth", "death", "back", "skill", "move", "house", "about",
        "home", "fault", "vote", "repeal", "found", "force", "may", "law", "post", "open", "hands", "filled", "store",
        "rank", "order", "due", "set", "pays", "earn", "weather", "sky", "weeks", "record", "worth", "lack", "plan",
        "image", "restore", "count", "keep", "row", "put", "element", "copy", "weight", "toss"};
    /** How often each call comes. */
    private static final int[] OFTEN = {14, 6, 4, 2, 3, 4, 3, 4, 14,
        6, 3, 8, 2, 3, 3, 6, 4, 6, 3, 5, 3, 12,
        5, 8, 4, 5, 2, 4, 8, 6, 18, 6, 2, 3, 1,
        5, 5, 12, 6, 5, 8, 4, 4, 4, 5};
    /** In a town that lacks much: more weeks, tries, votes and what is taken back, less of what is only looked at. */
    private static final int[] OFTEN_IN_WANT = {4, 2, 3, 1, 10, 4, 3, 2, 6,
        3, 1, 14, 2, 8, 3, 5, 3, 2, 6, 5, 3, 8,
        2, 8, 3, 3, 3, 4, 3, 2, 22, 4, 12, 8, 5,
        5, 5, 10, 3, 2, 2, 2, 2, 2, 4};
    private static final int IN_WANT = 4;
    private static final int LACK_OF_NUMBERS = 5;

    private final Random random;
    private final StringBuilder story = new StringBuilder();
    private IslandOffice office = new IslandOffice();
    private Oracle oracle = new Oracle();
    private final int wild;
    private final int style;
    private int calls;
    private boolean right = true;

    private FuzzTest(long seed) {
        random = new Random(seed);
        // Some runs ask much that is refused, most ask little of it.
        wild = seed % 5 == 0 ? 15 : seed % 5 == 1 ? 0 : 2;
        style = (int) Math.min(IN_WANT, seed % 7);
    }

    public static void main(String[] args) {
        int wrong = 0;
        int runs = Integer.getInteger("runs", 600);
        long first = Long.getLong("seed", 1L);
        long made = 0;
        for (long seed = first; seed < first + runs && wrong < 3; seed++) {
            FuzzTest test = new FuzzTest(seed);
            if (!test.run()) {
                System.out.println("seed " + seed + ":" + test.story);
                wrong++;
            }
            made += test.calls;
        }
        System.out.println(made + " calls made, " + wrong + " runs wrong");
        if (wrong > 0) {
            System.exit(1);
        }
    }

    private boolean run() {
        int[] often = style == IN_WANT ? OFTEN_IN_WANT : OFTEN;
        int sum = 0;
        for (int many : often) {
            sum += many;
        }
        if (style == IN_WANT) {
            settleInWant();
        } else if (style > 0) {
            settle();
        }
        if (random.nextInt(8) == 0) {
            // A long time ahead: runs that come to the last week.
            for (int i = 0; i < 1 + random.nextInt(7); i++) {
                call(30, new int[] {52, 0, 0, 0, 0});
            }
        }
        while (calls < CALLS && right) {
            int pick = random.nextInt(sum);
            int m = 0;
            while (pick >= often[m]) {
                pick -= often[m];
                m++;
            }
            if (m == 10 || m == 11) {
                putText();
            }
            if (m == 28) {
                putSky();
            }
            call(m, arguments(m));
            if (style > 0 && calls % 8 == 0) {
                call(4, new int[] {someone(), 0, 0, 0, 0});
            }
            if (calls % 16 == 0) {
                look();
            }
        }
        return right;
    }

    /** Starts with those who have enough and stay: 1 a few, 2 as many hands as a search takes, 3 many hands. */
    private void settle() {
        call(25, new int[] {3, random.nextBoolean() ? 99 : 25, 0, 0, 0});
        int people = style == 1 ? between(3, 8) : style == 2 ? between(7, 12) : between(12, 30);
        for (int i = 0; i < people; i++) {
            int birth = -between(900, 3000);
            int skills = random.nextInt(8) == 0 ? 0 : someSkills();
            int mother = i > 0 && random.nextInt(5) == 0 ? random.nextInt(i) : -1;
            if (random.nextInt(6) == 0) {
                call(1, new int[] {birth, upTo(5), skills, random.nextBoolean() ? 400 : upTo(30), 0});
            } else {
                call(0, new int[] {random.nextInt(6) == 0 ? someBirth() : birth, upTo(5), mother, skills, 0});
            }
        }
        int posts = between(1, 8);
        for (int i = 0; i < posts; i++) {
            call(17, new int[] {upTo(random.nextBoolean() ? 1 : 3), between(1, 3), upTo(3), 0, 0});
        }
        for (int i = 0; i < 4; i++) {
            call(21, new int[] {0, 1000, 0, 0, 0});
            call(21, new int[] {1, 500, 0, 0, 0});
        }
    }

    /** A town with food and fuel for some weeks, orders on the way, mothers and old ones, and few who bear much. */
    private void settleInWant() {
        call(25, new int[] {0, between(10, 150), 0, 0, 0});
        call(25, new int[] {2, upTo(20), 0, 0, 0});
        call(25, new int[] {3, between(3, 12), 0, 0, 0});
        int people = between(6, 18);
        for (int i = 0; i < people; i++) {
            int pick = random.nextInt(10);
            if (pick == 0) {
                call(1, new int[] {-between(900, 3000), upTo(2), someSkills(), between(4, 60), 0});
            } else if (pick <= 2 && i > 0) {
                call(0, new int[] {-between(0, 820), upTo(2), random.nextInt(i), 0, 0});
            } else {
                int birth = pick == 3 ? -between(3300, 3500) : -between(900, 3200);
                call(0, new int[] {birth, upTo(2), -1, 1 << upTo(2) | (random.nextBoolean() ? 1 : 0), 0});
            }
        }
        for (int i = between(2, 5); i > 0; i--) {
            call(17, new int[] {upTo(2), between(1, 2), upTo(3), 0, 0});
        }
        int[] sky = new int[120];
        for (int i = 0; i < sky.length; i++) {
            sky[i] = random.nextInt(9) == 0 ? -128 : upTo(80);
        }
        putRow(1, 0, sky);
        call(28, new int[] {1, 0, 0, 0, 0});
        for (int i = 0; i < sky.length; i++) {
            sky[i] = random.nextInt(9) == 0 ? -128 : upTo(7);
        }
        putRow(1, 0, sky);
        call(28, new int[] {1, 1, 0, 0, 0});
        call(21, new int[] {0, Math.min(1000, 3 * people * between(3, 16)), 0, 0, 0});
        call(21, new int[] {1, 3 * between(3, 16), 0, 0, 0});
        for (int i = upTo(4); i > 0; i--) {
            call(23, new int[] {upTo(1), between(1, 80), 0, 0, 0});
        }
        call(27, new int[] {between(1, 200), 0, 0, 0, 0});
    }

    /** A whole look round: it changes nothing, so it isn't counted among the calls. */
    private void look() {
        int before = calls;
        for (int p = 0; p < 40 && right; p++) {
            for (int what = 0; what < 11; what++) {
                call(8, new int[] {p, what, 0, 0, 0});
            }
        }
        for (int h = 0; h < 12 && right; h++) {
            for (int what = 0; what < 5; what++) {
                call(9, new int[] {h, what, 0, 0, 0});
            }
        }
        for (int i = 0; i < 15 && right; i++) {
            call(37, new int[] {i, 0, 0, 0, 0});
            for (int what = 0; what < 6; what++) {
                call(16, new int[] {i, what, 0, 0, 0});
            }
        }
        for (int i = 0; i < 30 && right; i++) {
            call(24, new int[] {i, 0, 0, 0, 0});
        }
        for (int i = 0; i < 8 && right; i++) {
            call(19, new int[] {i, 0, 0, 0, 0});
            call(19, new int[] {i, 1, 0, 0, 0});
            call(43, new int[] {i, 0, 0, 0, 0});
            call(44, new int[] {i, 0, 0, 0, 0});
        }
        calls = before;
    }

    private int upTo(int n) {
        return random.nextInt(n + 1);
    }

    private int between(int least, int most) {
        return least + random.nextInt(most - least + 1);
    }

    private int oddly(int usual) {
        if (random.nextInt(100) >= wild) {
            return usual;
        }
        switch (random.nextInt(9)) {
            case 0: return Integer.MIN_VALUE;
            case 1: return Integer.MAX_VALUE;
            case 2: return -1;
            case 3: return -2;
            case 4: return usual + 1;
            case 5: return usual - 1;
            case 6: return between(-5100, 500);
            case 7: return 10 * usual;
            default: return random.nextInt();
        }
    }

    private int someone() {
        int n = oracle.count(0);
        return random.nextInt(40) == 0 ? n : n == 0 ? 0 : random.nextInt(n);
    }

    private int someLaw() {
        int n = oracle.count(4);
        return random.nextInt(20) == 0 ? n : n == 0 ? 0 : random.nextInt(n);
    }

    private int somePost() {
        int n = oracle.count(5);
        return random.nextInt(20) == 0 ? n : n == 0 ? 0 : random.nextInt(n);
    }

    private int someBirth() {
        int week = oracle.count(7);
        switch (random.nextInt(8)) {
            case 0: return week - between(0, 52 * 16 + 20);
            case 1: return week - between(52 * 15, 52 * 19);
            case 2: return week - between(52 * 64, 52 * 66);
            case 3: return between(-5000, week);
            default: return week - between(900, 3300);
        }
    }

    private int someSkills() {
        int some = 1 << upTo(3) | (random.nextInt(2) == 0 ? 0 : 1 << upTo(3));
        return random.nextInt(5) == 0 ? 0 : random.nextInt(8) == 0 ? upTo(255) : some;
    }

    private int someCount() {
        return random.nextInt(4) == 0 ? upTo(500) : upTo(80);
    }

    private int[] arguments(int m) {
        int week = oracle.count(7);
        int mother = random.nextInt(2) == 0 ? -1 : someone();
        int[] a;
        switch (m) {
            case 0: a = new int[] {someBirth(), upTo(random.nextInt(3) == 0 ? 11 : 3), mother, someSkills()}; break;
            case 1: a = new int[] {someBirth(), upTo(3), someSkills(), Math.min(400, week + upTo(20))}; break;
            case 2: case 3: case 4: a = new int[] {someone()}; break;
            case 5: a = new int[] {someone(), upTo(random.nextInt(2) == 0 ? 3 : 7), upTo(1)}; break;
            case 6: a = new int[] {someone(), upTo(random.nextInt(3) == 0 ? 11 : 3)}; break;
            case 7: a = new int[] {upTo(random.nextInt(3) == 0 ? 11 : 3), upTo(20), between(1, 9)}; break;
            case 8: a = new int[] {someone(), upTo(10)}; break;
            case 9: a = new int[] {upTo(11), upTo(4)}; break;
            case 10: a = new int[] {random.nextInt(6) == 0 ? upTo(7) : 0}; break;
            case 11: {
                int voters = oracle.count(12);
                int n = random.nextInt(3) == 0 ? upTo(voters) : between(voters / 2, voters);
                a = new int[] {random.nextInt(12) == 0 ? upTo(7) : 0, n};
                break;
            }
            case 12: a = new int[] {someLaw()}; break;
            case 13: {
                int law = someLaw();
                int voters = Math.max(0, oracle.law(law, 3));
                a = new int[] {law, random.nextBoolean() ? upTo(voters) : between(voters / 2, voters)};
                break;
            }
            case 14: a = new int[] {upTo(3), random.nextInt(4) == 0 ? upTo(400) : Math.min(400, week + upTo(3))}; break;
            case 15: a = new int[] {someone(), upTo(3)}; break;
            case 16: a = new int[] {someLaw(), upTo(5)}; break;
            case 17: a = new int[] {upTo(random.nextInt(8) == 0 ? 7 : 3), between(1, 3), upTo(3)}; break;
            case 18: case 19: a = new int[] {somePost(), upTo(1)}; break;
            case 20: a = new int[0]; break;
            case 21: a = new int[] {upTo(3), random.nextInt(3) == 0 ? between(1, 1000) : between(1, 150)}; break;
            case 22: a = new int[] {upTo(3), upTo(1), upTo(random.nextInt(6) == 0 ? 99 : 9)}; break;
            case 23: a = new int[] {upTo(3), Math.max(1, someCount())}; break;
            case 24: a = new int[] {upTo(Math.max(0, oracle.count(6)))}; break;
            case 25: {
                int what = upTo(3);
                int n = what == 0 ? upTo(200) : what == 1 ? upTo(100) : what == 2 ? upTo(99) : between(1, 20);
                a = new int[] {what, n};
                break;
            }
            case 26: a = new int[] {random.nextBoolean() ? upTo(26) : new int[] {5, 7, 11, 15, 19, 21}[upTo(5)]}; break;
            case 27: a = new int[] {random.nextInt(3) == 0 ? between(1, 10000) : between(1, 30)}; break;
            case 28: a = new int[] {random.nextInt(12) == 0 ? upTo(7) : 1, upTo(1)}; break;
            case 29: a = new int[] {random.nextInt(3) == 0 ? upTo(400) : upTo(125), upTo(1)}; break;
            case 30: {
                int most = style == IN_WANT ? 2 : 5;
                a = new int[] {random.nextInt(style == IN_WANT ? 60 : 12) == 0 ? upTo(52) : between(1, most)};
                break;
            }
            case 31: a = new int[] {random.nextInt(6) == 0 ? upTo(401) : upTo(week), upTo(4)}; break;
            case 32: a = new int[] {somePost(), between(1, 30)}; break;
            case 33: a = new int[] {upTo(3), between(1, 30)}; break;
            case 37: a = new int[] {upTo(14)}; break;
            case 38: {
                int what = random.nextInt(5) == 0 ? 0 : between(1, 2);
                a = new int[] {between(2, 7), what, what == 2 ? someLaw() : someone()};
                break;
            }
            case 39: a = new int[] {upTo(7), upTo(2), random.nextInt(4) == 0 ? upTo(120) : upTo(12)}; break;
            case 40: a = new int[] {upTo(7), upTo(12), random.nextInt(3) == 0 ? random.nextInt() : between(-200, 200)}; break;
            case 41: a = new int[] {upTo(7), upTo(12)}; break;
            case 42: a = new int[] {upTo(7), upTo(6), upTo(7), upTo(6), upTo(6)}; break;
            case 43: case 44: a = new int[] {upTo(7)}; break;
            default: a = new int[0]; break;
        }
        int[] all = new int[LACK_OF_NUMBERS];
        for (int i = 0; i < a.length; i++) {
            all[i] = oddly(a[i]);
        }
        return all;
    }

    private void putRow(int d, int sort, int[] cells) {
        call(39, new int[] {d, sort, cells.length, 0, 0});
        for (int i = 0; i < cells.length; i++) {
            call(40, new int[] {d, i, cells[i], 0, 0});
            calls--;
        }
    }

    private void putText() {
        String text = someText();
        if (random.nextInt(6) == 0 && text.length() > 0) {
            int at = random.nextInt(text.length());
            String odd = "vpel:!()&|<>=+-0123456789akhcswd x";
            char c = odd.charAt(random.nextInt(odd.length()));
            String behind = text.substring(random.nextBoolean() ? at : at + 1);
            text = random.nextInt(4) == 0 ? text.substring(0, at) : text.substring(0, at) + c + behind;
        }
        text = text.length() > 120 ? text.substring(0, 120) : text;
        int[] cells = new int[text.length()];
        for (int i = 0; i < cells.length; i++) {
            cells[i] = text.charAt(i);
        }
        putRow(0, random.nextInt(40) == 0 ? 1 : 0, cells);
    }

    private String someText() {
        String[] plain = {"v:a>17", "v:d<5", "v:k=2|k=0", "p:a<60", "p:!d>9", "e:k=1", "e:k=1|k=4", "l:d>3&h>1",
            "l:w<30", "e:s>0", "v:h>1", "p:s=1|w<26", "l:h>2", "v:!(c>3)"};
        if (random.nextInt(3) == 0) {
            return plain[random.nextInt(plain.length)];
        }
        if (style == IN_WANT && random.nextBoolean()) {
            return plain[upTo(2)];
        }
        StringBuilder text = new StringBuilder();
        text.append("vpel".charAt(upTo(3))).append(':');
        expr(text, random.nextInt(12) == 0 ? 9 : 3);
        return text.toString();
    }

    private void expr(StringBuilder text, int deep) {
        factor(text, deep);
        while (random.nextInt(3) == 0) {
            text.append(random.nextBoolean() ? '|' : '&');
            factor(text, deep);
        }
    }

    private void factor(StringBuilder text, int deep) {
        int pick = random.nextInt(deep == 9 || deep > 3 ? 3 : 6);
        if (pick == 0) {
            text.append('!');
            factor(text, deep);
        } else if (pick <= 2 && deep > 0) {
            text.append('(');
            expr(text, deep - 1);
            text.append(')');
        } else {
            sum(text);
            text.append("<>=".charAt(upTo(2)));
            sum(text);
        }
    }

    private void sum(StringBuilder text) {
        atom(text);
        while (random.nextInt(4) == 0) {
            text.append(random.nextBoolean() ? '+' : '-');
            atom(text);
        }
    }

    private void atom(StringBuilder text) {
        if (random.nextInt(5) < 3) {
            text.append("akhcswd".charAt(upTo(6)));
        } else {
            text.append(random.nextInt(4) == 0 ? upTo(9999) : upTo(30));
        }
    }

    private void putSky() {
        int sort = upTo(2);
        int[] cells = new int[random.nextInt(3) == 0 ? upTo(120) : upTo(30)];
        int least = sort == 0 ? -128 : sort == 1 ? -32768 : Integer.MIN_VALUE;
        int most = random.nextInt(3) == 0 ? 120 : random.nextInt(3) == 0 ? 3 : 40;
        for (int i = 0; i < cells.length; i++) {
            int pick = random.nextInt(12);
            cells[i] = pick < 3 ? least : pick == 3 ? between(-100, 0) : pick == 4 ? random.nextInt() : upTo(most);
        }
        putRow(1, sort, cells);
    }

    private void call(int m, int[] a) {
        if (!right) {
            return;
        }
        calls++;
        String got;
        try {
            got = String.valueOf(answer(office, m, a));
        } catch (RuntimeException e) {
            got = e.getClass().getName();
        }
        String want;
        try {
            want = String.valueOf(due(oracle, m, a));
        } catch (IllegalArgumentException | IllegalStateException e) {
            want = e.getClass().getName();
        }
        story.append("\n ").append(NAMES[m]);
        for (int x : a) {
            story.append(' ').append(x);
        }
        story.append(" = ").append(got);
        if (!got.equals(want)) {
            story.append("   but due is ").append(want);
            right = false;
        }
    }

    private static long answer(IslandOffice x, int m, int[] a) {
        switch (m) {
            case 0: return x.person(a[0], a[1], a[2], a[3]);
            case 1: return x.guest(a[0], a[1], a[2], a[3]);
            case 2: return x.birth(a[0]);
            case 3: return x.death(a[0]);
            case 4: return x.back(a[0]);
            case 5: return x.skill(a[0], a[1], a[2] == 1);
            case 6: return x.move(a[0], a[1]);
            case 7: return x.house(a[0], a[1], a[2]);
            case 8: return x.about(a[0], a[1]);
            case 9: return x.home(a[0], a[1]);
            case 10: return x.fault(a[0]);
            case 11: return x.vote(a[0], a[1]);
            case 12: return x.repeal(a[0]);
            case 13: return x.found(a[0], a[1]);
            case 14: return x.force(a[0], a[1]);
            case 15: return x.may(a[0], a[1]);
            case 16: return x.law(a[0], a[1]);
            case 17: return x.post(a[0], a[1], a[2]);
            case 18: return x.open(a[0], a[1] == 1);
            case 19: return x.hands(a[0], a[1] == 1);
            case 20: return x.filled();
            case 21: return x.store(a[0], a[1]);
            case 22: return x.rank(a[0], a[1], a[2]);
            case 23: return x.order(a[0], a[1]);
            case 24: return x.due(a[0]);
            case 25: return x.set(a[0], a[1]);
            case 26: return x.pays(a[0]);
            case 27: return x.earn(a[0]);
            case 28: return x.weather(a[0], a[1] == 1);
            case 29: return x.sky(a[0], a[1] == 1);
            case 30: return x.weeks(a[0]);
            case 31: return x.record(a[0], a[1]);
            case 32: return x.worth(a[0], a[1]);
            case 33: return x.lack(a[0], a[1]);
            case 34: return x.plan();
            case 35: return x.image();
            case 36: return x.restore();
            case 37: return x.count(a[0]);
            case 38: return x.keep(a[0], a[1], a[2]);
            case 39: return x.row(a[0], a[1], a[2]);
            case 40: return x.put(a[0], a[1], a[2]);
            case 41: return x.element(a[0], a[1]);
            case 42: return x.copy(a[0], a[1], a[2], a[3], a[4]);
            case 43: return x.weight(a[0]);
            case 44: return x.toss(a[0]);
            default: throw new UnsupportedOperationException();
        }
    }

    private static long due(Oracle x, int m, int[] a) {
        switch (m) {
            case 0: return x.person(a[0], a[1], a[2], a[3]);
            case 1: return x.guest(a[0], a[1], a[2], a[3]);
            case 2: return x.birth(a[0]);
            case 3: return x.death(a[0]);
            case 4: return x.back(a[0]);
            case 5: return x.skill(a[0], a[1], a[2] == 1);
            case 6: return x.move(a[0], a[1]);
            case 7: return x.house(a[0], a[1], a[2]);
            case 8: return x.about(a[0], a[1]);
            case 9: return x.home(a[0], a[1]);
            case 10: return x.fault(a[0]);
            case 11: return x.vote(a[0], a[1]);
            case 12: return x.repeal(a[0]);
            case 13: return x.found(a[0], a[1]);
            case 14: return x.force(a[0], a[1]);
            case 15: return x.may(a[0], a[1]);
            case 16: return x.law(a[0], a[1]);
            case 17: return x.post(a[0], a[1], a[2]);
            case 18: return x.open(a[0], a[1] == 1);
            case 19: return x.hands(a[0], a[1] == 1);
            case 20: return x.filled();
            case 21: return x.store(a[0], a[1]);
            case 22: return x.rank(a[0], a[1], a[2]);
            case 23: return x.order(a[0], a[1]);
            case 24: return x.due(a[0]);
            case 25: return x.set(a[0], a[1]);
            case 26: return x.pays(a[0]);
            case 27: return x.earn(a[0]);
            case 28: return x.weather(a[0], a[1] == 1);
            case 29: return x.sky(a[0], a[1] == 1);
            case 30: return x.weeks(a[0]);
            case 31: return x.record(a[0], a[1]);
            case 32: return x.worth(a[0], a[1]);
            case 33: return x.lack(a[0], a[1]);
            case 34: return x.plan();
            case 35: return x.image();
            case 36: return x.restore();
            case 37: return x.count(a[0]);
            case 38: return x.keep(a[0], a[1], a[2]);
            case 39: return x.row(a[0], a[1], a[2]);
            case 40: return x.put(a[0], a[1], a[2]);
            case 41: return x.element(a[0], a[1]);
            case 42: return x.copy(a[0], a[1], a[2], a[3], a[4]);
            case 43: return x.weight(a[0]);
            case 44: return x.toss(a[0]);
            default: throw new UnsupportedOperationException();
        }
    }
}
