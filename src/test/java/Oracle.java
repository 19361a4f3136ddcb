import java.io.ByteArrayInputStream;
import java.io.ByteArrayOutputStream;
import java.io.IOException;
import java.io.ObjectInputStream;
import java.io.ObjectOutputStream;
import java.io.Serializable;
import java.util.ArrayList;
import java.util.Arrays;
import java.util.List;

/**
 * A second office, written from ../shared/DOC.md apart from the program and by other means (objects, trees of a
 * law's text, a search through sets of posts, whole copies), to hold the program's answers against.
 */
final class Oracle {
    static final class Human implements Serializable {
        private static final long serialVersionUID = 1;
        int no, birth, house, mother, skills, end = -1, discontent, post = -2;
        boolean guest, away, gone, hungry;

        boolean here() { return !away && !gone; }

        int age(int week) { return (week - birth) / 52; }

        String kind(int week) {
            if (gone) return "none";
            if (away) return "AWAY";
            if (guest) return "GUEST";
            if (age(week) < 16) return "CHILD";
            if (age(week) >= 65) return "OLD";
            return skills == 0 ? "PERSON" : "HAND";
        }

        int need(int week, boolean withPost) {
            String kind = kind(week);
            if (kind.equals("none") || kind.equals("AWAY")) return 0;
            int need = 3;
            if (kind.equals("CHILD") || kind.equals("OLD")) need -= 1;
            if (kind.equals("GUEST")) need += 1;
            if ((kind.equals("HAND") || kind.equals("GUEST")) && withPost && post != -2) need += 1;
            return need;
        }

        int wage(int week, boolean withPost) {
            String kind = kind(week);
            boolean has = withPost && post != -2;
            if (kind.equals("OLD")) return 2;
            if (kind.equals("HAND")) return has ? 3 : 0;
            if (kind.equals("GUEST")) return has ? 2 * 3 : 0;
            return 0;
        }
    }

    static int kindNumber(String kind) {
        return kind.equals("none") ? -2 : Arrays.asList("PERSON", "CHILD", "HAND", "AWAY", "OLD", "GUEST").indexOf(kind);
    }

    static final class Act implements Serializable {
        private static final long serialVersionUID = 1;
        int no, subject, begin, votes, voters, repealed = -2, madeIn;
        boolean isVoid;
        Act basis;
        String text;
    }

    static final class Job implements Serializable {
        private static final long serialVersionUID = 1;
        int skill, hands, sort;
        boolean open = true;
    }

    static final class Order implements Serializable {
        private static final long serialVersionUID = 1;
        int good, rest;
    }

    static final class Cells implements Serializable {
        private static final long serialVersionUID = 1;
        int sort;
        long[] cell = new long[0];

        Cells copy() {
            Cells c = new Cells();
            c.sort = sort;
            c.cell = cell.clone();
            return c;
        }

        long lost() { return sort == 0 ? Byte.MIN_VALUE : sort == 1 ? Short.MIN_VALUE : Integer.MIN_VALUE; }

        int in(int week) {
            if (week >= cell.length) return 0;
            if (cell[week] != lost()) return (int) Math.max(0, cell[week]);
            List<Long> there = new ArrayList<>();
            for (int w = 0; w < cell.length; w++) {
                if (w / 4 == week / 4 && cell[w] != lost()) there.add(Math.max(0L, cell[w]));
            }
            long sum = 0;
            for (long x : there) sum += x;
            return there.isEmpty() ? 0 : (int) (sum / there.size());
        }
    }

    static final class World implements Serializable {
        private static final long serialVersionUID = 1;
        int week, purse, fund, unpaid, grass = 100, landed = -2;
        int[] order = {0, 1, 2};
        int room = 60, calm = 50, yield = 10, limit = 12;
        int[] cattle = new int[12], tank = new int[12], roof = new int[12];
        boolean[] dry = new boolean[12];
        List<Human> people = new ArrayList<>();
        List<Act> acts = new ArrayList<>();
        List<Job> jobs = new ArrayList<>();
        List<Order> orders = new ArrayList<>();
        int[] store = new int[4], rank = {0, 1, 2, 3}, use = new int[4];
        Cells weather = new Cells(), rain = new Cells();
        List<int[]> records = new ArrayList<>();
        boolean[] lacking = new boolean[4];

        World() {
            Arrays.fill(tank, 20);
            Arrays.fill(roof, 3);
        }

        World twin() {
            try {
                ByteArrayOutputStream bytes = new ByteArrayOutputStream();
                ObjectOutputStream out = new ObjectOutputStream(bytes);
                out.writeObject(this);
                out.close();
                return (World) new ObjectInputStream(new ByteArrayInputStream(bytes.toByteArray())).readObject();
            } catch (IOException | ClassNotFoundException e) {
                throw new IllegalStateException(e);
            }
        }

        List<Human> here() {
            List<Human> list = new ArrayList<>();
            for (Human h : people) if (h.here()) list.add(h);
            return list;
        }

        int heads(int house) {
            int n = 0;
            for (Human h : here()) if (h.house == house) n++;
            return n;
        }

        int away() {
            int n = 0;
            for (Human h : people) if (h.away && !h.gone) n++;
            return n;
        }

        Act force(int subject, int inWeek) {
            Act best = null;
            for (Act a : acts) {
                if (a.subject != subject || a.isVoid || a.begin > inWeek) continue;
                if (a.repealed != -2 && a.repealed <= inWeek) continue;
                if (best == null || a.begin > best.begin || a.begin == best.begin && a.no > best.no) best = a;
            }
            return best;
        }

        boolean may(Human h, int subject) {
            Act a = force(subject, week);
            if (a == null) return subject == 0 ? h.age(week) >= 18 : subject != 2;
            return new Tree(a.text, this, h).holds();
        }

        int voters() {
            int n = 0;
            for (Human h : here()) if (!h.guest && may(h, 0)) n++;
            return n;
        }

        long[] crews() {
            List<List<Integer>> can = new ArrayList<>();
            List<Integer> all = new ArrayList<>();
            for (Job j : jobs) can.add(new ArrayList<>());
            for (Human h : here()) {
                String kind = h.kind(week);
                if (!kind.equals("HAND") && !kind.equals("GUEST") || !may(h, 1)) continue;
                boolean any = false;
                for (int i = 0; i < jobs.size(); i++) {
                    Job j = jobs.get(i);
                    if (j.open && (h.skills >> j.skill & 1) == 1) {
                        can.get(i).add(h.no);
                        any = true;
                    }
                }
                if (any) all.add(h.no);
            }
            long[] crew = new long[jobs.size()];
            if (all.size() > 9) {
                List<Integer> free = new ArrayList<>(all);
                for (int i = 0; i < jobs.size(); i++) {
                    List<Integer> fit = new ArrayList<>(can.get(i));
                    fit.retainAll(free);
                    if (fit.size() < jobs.get(i).hands) continue;
                    for (int k = 0; k < jobs.get(i).hands; k++) {
                        crew[i] |= 1L << fit.get(k);
                        free.remove(fit.get(k));
                    }
                }
                return crew;
            }
            for (int size = jobs.size(); size > 0; size--) {
                // Sets of posts with post 0 first: post i is bit (last - i).
                for (int set = (1 << jobs.size()) - 1; set > 0; set--) {
                    if (Integer.bitCount(set) == size && man(0, set, can, 0L, crew)) return crew;
                }
            }
            return crew;
        }

        private boolean man(int i, int set, List<List<Integer>> can, long taken, long[] crew) {
            if (i == jobs.size()) return true;
            crew[i] = 0;
            if ((set >> (jobs.size() - 1 - i) & 1) == 0) return man(i + 1, set, can, taken, crew);
            List<Long> ways = new ArrayList<>();
            choose(can.get(i), 0, jobs.get(i).hands, 0L, taken, ways);
            ways.sort(null);
            for (long way : ways) {
                crew[i] = way;
                if (man(i + 1, set, can, taken | way, crew)) return true;
            }
            crew[i] = 0;
            return false;
        }

        private void choose(List<Integer> from, int k, int more, long chosen, long taken, List<Long> ways) {
            if (more == 0) {
                ways.add(chosen);
                return;
            }
            for (int x = k; x < from.size(); x++) {
                long bit = 1L << from.get(x);
                if ((taken & bit) == 0) choose(from, x + 1, more - 1, chosen | bit, taken, ways);
            }
        }

        static int filled(long[] crew) {
            int n = 0;
            for (long c : crew) if (c != 0) n++;
            return n;
        }

        void gain(int good, int n) { store[good] = Math.min(9999, store[good] + n); }

        void weekGoesBy() {
            for (Human h : here()) if (h.guest && h.end <= week) h.gone = true;
            long rained = rain.in(week);
            for (int i = 0; i < 12; i++) tank[i] = (int) Math.min(200L, tank[i] + rained * roof[i]);
            grass = (int) Math.min(500L, grass + rained);
            for (int i = 0; i < 12; i++) {
                int wanted = heads(i) + cattle[i];
                dry[i] = wanted > tank[i];
                tank[i] = dry[i] ? 0 : tank[i] - wanted;
            }
            for (int i = 0; i < 12; i++) {
                int herd = cattle[i];
                for (int k = 0; k < herd; k++) {
                    if (grass > 0) grass--;
                    else if (store[2] > 0) store[2]--;
                    else cattle[i]--;
                }
            }
            long[] crew = crews();
            boolean isCalm = weather.in(week) <= calm;
            for (Human h : people) h.post = -2;
            boolean school = false, nurse = false;
            for (int i = 0; i < jobs.size(); i++) {
                if (crew[i] == 0) continue;
                for (Human h : people) if ((crew[i] >> h.no & 1) == 1) h.post = i;
                school |= jobs.get(i).sort == 1;
                nurse |= jobs.get(i).sort == 2;
                if (jobs.get(i).sort == 3 && isCalm) gain(0, yield);
            }
            boolean lands = false;
            if (week >= 4 && isCalm && (landed == -2 || landed / 4 < week / 4)) {
                lands = true;
                landed = week;
                int left = room;
                List<Order> sorted = new ArrayList<>(orders);
                sorted.sort((a, b) -> Integer.compare(rank[a.good], rank[b.good]));
                for (Order o : sorted) {
                    int n = Math.min(left, o.rest);
                    o.rest -= n;
                    left -= n;
                    gain(o.good, n);
                }
            }
            Arrays.fill(lacking, false);
            eat();
            int[] uses = use.clone();
            for (int i = 0; i < 12; i++) if (heads(i) > 0) uses[1]++;
            for (int g = 1; g < 4; g++) {
                lacking[g] = store[g] < uses[g];
                store[g] -= Math.min(store[g], uses[g]);
            }
            for (Human h : here()) {
                int more = 0;
                if (h.hungry) more += 2;
                if (dry[h.house]) more += 1;
                if (!school) {
                    boolean mother = false;
                    for (Human c : people) mother |= c.kind(week).equals("CHILD") && c.mother == h.no;
                    if (mother) more += 2;
                }
                if (!nurse) {
                    boolean old = false;
                    for (Human o : people) old |= o.kind(week).equals("OLD") && o.house == h.house;
                    if (old) more += 1;
                }
                if (lacking[1]) more += 1;
                h.discontent = more == 0 ? Math.max(0, h.discontent - 1) : Math.min(99, h.discontent + more);
            }
            if (week % 4 == 3) payDay();
            if (lands) {
                for (Human h : people) {
                    String kind = h.kind(week);
                    if (!kind.equals("PERSON") && !kind.equals("HAND") || h.discontent < limit || !may(h, 3)) continue;
                    h.away = true;
                    h.discontent = 0;
                    for (Human c : people) {
                        if (c.mother == h.no && c.kind(week).equals("CHILD")) {
                            c.away = true;
                            c.discontent = 0;
                        }
                    }
                }
            }
            records.add(new int[] {here().size(), away(), store[0], purse, filled(crew)});
            week++;
        }

        private void eat() {
            int need = 0;
            for (Human h : people) h.hungry = false;
            for (Human h : here()) need += h.need(week, true);
            if (store[0] >= need) {
                store[0] -= need;
                return;
            }
            lacking[0] = true;
            List<Human> others = new ArrayList<>();
            int[] eaten = new int[people.size()];
            for (Human h : here()) {
                if (may(h, 2)) {
                    eaten[h.no] = Math.min(store[0], h.need(week, true));
                    store[0] -= eaten[h.no];
                } else {
                    others.add(h);
                }
            }
            if (!others.isEmpty()) {
                int share = store[0] / others.size();
                for (Human h : others) {
                    eaten[h.no] = Math.min(share, h.need(week, true));
                    store[0] -= eaten[h.no];
                }
                for (Human h : others) {
                    if (store[0] > 0 && eaten[h.no] < h.need(week, true)) {
                        eaten[h.no]++;
                        store[0]--;
                    }
                }
            }
            for (Human h : here()) h.hungry = eaten[h.no] < h.need(week, true);
        }

        private void payDay() {
            purse = Math.min(1000000, purse + 5 * away());
            for (int turn : order) {
                if (turn == 2) {
                    if (purse >= 5) {
                        purse -= 5;
                        fund += 5;
                    }
                    continue;
                }
                for (Human h : here()) {
                    boolean pension = h.kind(week).equals("OLD");
                    int due = h.wage(week, true);
                    if (turn == 0 && (h.post == -2 || pension) || turn == 1 && !pension) continue;
                    if (purse >= due) purse -= due;
                    else unpaid++;
                }
            }
        }
    }

    /** Reads a text by going down through its parts; stops at the first letter that doesn't fit. */
    static final class Tree {
        static final class Misfit extends RuntimeException {
            private static final long serialVersionUID = 1;
            final int place;
            Misfit(int place) { this.place = place; }
        }

        final String text;
        final World world;
        final Human who;
        int at;

        Tree(String text, World world, Human who) {
            this.text = text;
            this.world = world;
            this.who = who;
        }

        static int fault(String text) {
            try {
                new Tree(text, null, null).holds();
                return -2;
            } catch (Misfit m) {
                return m.place;
            }
        }

        char next() { return at < text.length() ? text.charAt(at) : 0; }

        Misfit misfit() { return new Misfit(at); }

        boolean holds() {
            if ("vpel".indexOf(next()) < 0 || at >= text.length()) throw misfit();
            at++;
            if (next() != ':') throw misfit();
            at++;
            boolean is = expr(0);
            if (at < text.length()) throw misfit();
            return is;
        }

        boolean expr(int depth) {
            boolean is = term(depth);
            if (next() != '|') return is;
            at++;
            boolean rest = expr(depth);
            return is || rest;
        }

        boolean term(int depth) {
            boolean is = factor(depth);
            if (next() != '&') return is;
            at++;
            boolean rest = term(depth);
            return is && rest;
        }

        boolean factor(int depth) {
            if (next() == '!') {
                at++;
                return !factor(depth);
            }
            if (next() == '(') {
                if (depth == 8) throw misfit();
                at++;
                boolean is = expr(depth + 1);
                if (next() != ')') throw misfit();
                at++;
                return is;
            }
            int left = sum();
            char test = next();
            if (test != '<' && test != '>' && test != '=') throw misfit();
            at++;
            int right = sum();
            return test == '<' ? left < right : test == '>' ? left > right : left == right;
        }

        int sum() {
            int sum = atom();
            while (next() == '+' || next() == '-') {
                boolean plus = next() == '+';
                at++;
                int more = atom();
                sum = plus ? sum + more : sum - more;
            }
            return sum;
        }

        int atom() {
            char c = next();
            if (c >= '0' && c <= '9') {
                int n = 0;
                int from = at;
                while (next() >= '0' && next() <= '9') {
                    if (at - from == 4 || at > from && text.charAt(from) == '0') throw misfit();
                    n = 10 * n + next() - '0';
                    at++;
                }
                return n;
            }
            if (c == 0 || "akhcswd".indexOf(c) < 0) throw misfit();
            at++;
            if (who == null) return 0;
            switch (c) {
                case 'a': return who.age(world.week);
                case 'k': return kindNumber(who.kind(world.week));
                case 'h': return world.heads(who.house);
                case 'c': return world.cattle[who.house];
                case 's': return Integer.bitCount(who.skills);
                case 'w': return world.week % 52;
                default: return who.discontent;
            }
        }
    }

    /** What a shelf holds: null, a Human as then, an Act as then, or Cells. */
    private final Object[] shelf = new Object[8];
    private final int[] thenWeek = new int[8];
    private World world = new World();
    private World image;

    private boolean isHuman(int p) { return p >= 0 && p < world.people.size(); }
    private static boolean in(int x, int least, int most) { return x >= least && x <= most; }
    private static int bit(boolean b) { return b ? 1 : 0; }

    private int come(int birth, int house, int mother, int skills, boolean guest, int end) {
        if (world.people.size() == 40) return -2;
        Human h = new Human();
        h.no = world.people.size();
        h.birth = birth;
        h.house = house;
        h.mother = mother;
        h.skills = skills;
        h.guest = guest;
        h.end = end;
        world.people.add(h);
        return h.no;
    }

    int person(int birth, int house, int mother, int skills) {
        if (!in(birth, -5000, world.week) || !in(house, 0, 11) || !in(skills, 0, 255)) return -1;
        if (mother != -1 && !isHuman(mother)) return -1;
        return come(birth, house, mother == -1 ? -2 : mother, skills, false, -1);
    }

    int guest(int birth, int house, int skills, int end) {
        if (!in(birth, -5000, world.week) || !in(house, 0, 11) || !in(skills, 0, 255)) return -1;
        if (!in(end, world.week, 400)) return -1;
        return come(birth, house, -2, skills, true, end);
    }

    int birth(int mother) {
        if (!isHuman(mother)) return -1;
        if (world.people.size() == 40) return -2;
        Human m = world.people.get(mother);
        String kind = m.kind(world.week);
        if (!m.here() || kind.equals("CHILD") || kind.equals("OLD") || kind.equals("GUEST")) return -3;
        return come(world.week, m.house, mother, 0, false, -1);
    }

    int death(int p) {
        if (!isHuman(p)) return -1;
        Human h = world.people.get(p);
        if (h.gone) return -3;
        h.gone = true;
        return h.age(world.week);
    }

    int back(int p) {
        if (!isHuman(p)) return -1;
        Human h = world.people.get(p);
        if (h.gone || !h.away) return -3;
        h.away = false;
        h.discontent = 0;
        return h.age(world.week);
    }

    int skill(int p, int skill, boolean is) {
        if (!isHuman(p) || !in(skill, 0, 7)) return -1;
        Human h = world.people.get(p);
        if (h.gone) return -3;
        boolean was = (h.skills >> skill & 1) == 1;
        if (was != is) h.skills ^= 1 << skill;
        return bit(was != is);
    }

    int move(int p, int house) {
        if (!isHuman(p) || !in(house, 0, 11)) return -1;
        Human h = world.people.get(p);
        if (!h.here()) return -3;
        int was = h.house;
        h.house = house;
        return was;
    }

    int house(int house, int cattle, int roof) {
        if (!in(house, 0, 11) || !in(cattle, 0, 20) || !in(roof, 1, 9)) return -1;
        int other = bit(world.cattle[house] != cattle || world.roof[house] != roof);
        world.cattle[house] = cattle;
        world.roof[house] = roof;
        return other;
    }

    int about(int p, int what) {
        if (!isHuman(p) || !in(what, 0, 10)) return -1;
        Human h = world.people.get(p);
        int state = h.gone ? 2 : h.away ? 1 : 0;
        int w = world.week;
        int[] all = {kindNumber(h.kind(w)), h.age(w), h.house, h.mother, h.skills, state, h.discontent, h.post,
            h.need(w, true), h.wage(w, true), bit(h.hungry)};
        return all[what];
    }

    int home(int house, int what) {
        if (!in(house, 0, 11) || !in(what, 0, 4)) return -1;
        int[] all = {world.heads(house), world.cattle[house], world.tank[house], world.roof[house],
            bit(world.dry[house])};
        return all[what];
    }

    private static String textOf(Cells cells) {
        StringBuilder text = new StringBuilder();
        for (long c : cells.cell) text.append(c <= 0 ? (char) 1 : (char) c);
        return text.toString();
    }

    int fault(int d) {
        if (!in(d, 0, 7)) return -1;
        if (shelf[d] == null) return -11;
        if (!(shelf[d] instanceof Cells) || ((Cells) shelf[d]).sort != 0) return -12;
        return Tree.fault(textOf((Cells) shelf[d]));
    }

    int vote(int d, int n) {
        int voters = world.voters();
        if (!in(d, 0, 7) || !in(n, 0, voters)) return -1;
        int fault = fault(d);
        if (fault == -11 || fault == -12) return fault;
        if (fault != -2) return -100 - fault;
        if (world.acts.size() == 12) return -2;
        if (!(2 * n > voters)) return -3;
        Act a = new Act();
        a.no = world.acts.size();
        a.text = textOf((Cells) shelf[d]);
        a.subject = "vpel".indexOf(a.text.charAt(0));
        a.begin = world.week + 1;
        a.madeIn = world.week;
        a.votes = n;
        a.voters = voters;
        a.basis = world.force(0, world.week);
        world.acts.add(a);
        return a.no;
    }

    private boolean isAct(int law) { return law >= 0 && law < world.acts.size(); }

    int repeal(int law) {
        if (!isAct(law)) return -1;
        Act a = world.acts.get(law);
        if (a.isVoid || a.repealed != -2) return -3;
        a.repealed = world.week + 1;
        return 1;
    }

    private int annul(Act a) {
        if (a.isVoid) return 0;
        a.isVoid = true;
        int n = 1;
        if (a.subject == 0) for (Act b : world.acts) if (b.basis == a) n += annul(b);
        return n;
    }

    int found(int law, int n) {
        if (!isAct(law) || !in(n, 0, world.acts.get(law).voters)) return -1;
        Act a = world.acts.get(law);
        if (a.isVoid) return -3;
        a.votes = n;
        return 2 * n > a.voters ? 0 : annul(a);
    }

    int force(int subject, int week) {
        if (!in(subject, 0, 3) || !in(week, 0, 400)) return -1;
        Act a = world.force(subject, week);
        return a == null ? -2 : a.no;
    }

    int may(int p, int subject) {
        if (!isHuman(p) || !in(subject, 0, 3)) return -1;
        if (!world.people.get(p).here()) return -3;
        return bit(world.may(world.people.get(p), subject));
    }

    int law(int law, int what) {
        if (!isAct(law) || !in(what, 0, 5)) return -1;
        Act a = world.acts.get(law);
        return new int[] {a.subject, a.begin, a.votes, a.voters, bit(a.isVoid), a.repealed}[what];
    }

    int post(int skill, int hands, int sort) {
        if (!in(skill, 0, 7) || !in(hands, 1, 3) || !in(sort, 0, 3)) return -1;
        if (world.jobs.size() == 8) return -2;
        Job j = new Job();
        j.skill = skill;
        j.hands = hands;
        j.sort = sort;
        world.jobs.add(j);
        return world.jobs.size() - 1;
    }

    int open(int post, boolean is) {
        if (!in(post, 0, world.jobs.size() - 1)) return -1;
        Job j = world.jobs.get(post);
        boolean was = j.open;
        j.open = is;
        return bit(was != is);
    }

    int hands(int post, boolean high) {
        if (!in(post, 0, world.jobs.size() - 1)) return -1;
        long crew = world.crews()[post];
        return (int) (high ? crew / (1L << 32) : crew % (1L << 32));
    }

    int filled() { return World.filled(world.crews()); }

    int store(int good, int n) {
        if (!in(good, 0, 3) || !in(n, 1, 1000)) return -1;
        if (world.store[good] + n > 9999) return -2;
        return world.store[good] += n;
    }

    int rank(int good, int what, int n) {
        if (!in(good, 0, 3) || !in(what, 0, 1) || !in(n, 0, what == 0 ? 9 : 99) || what == 1 && good == 0) return -1;
        int[] of = what == 0 ? world.rank : world.use;
        int was = of[good];
        of[good] = n;
        return was;
    }

    private static int ask(World w, int good, int n) {
        if (w.orders.size() == 30) return -2;
        Order o = new Order();
        o.good = good;
        o.rest = n;
        w.orders.add(o);
        return w.orders.size() - 1;
    }

    int order(int good, int n) {
        if (!in(good, 0, 3) || !in(n, 1, 500)) return -1;
        return ask(world, good, n);
    }

    int due(int order) {
        if (!in(order, 0, world.orders.size() - 1)) return -1;
        return world.orders.get(order).rest;
    }

    int set(int what, int n) {
        int was;
        switch (what) {
            case 0: if (!in(n, 0, 500)) return -1; was = world.room; world.room = n; return was;
            case 1: if (!in(n, 0, 9999)) return -1; was = world.calm; world.calm = n; return was;
            case 2: if (!in(n, 0, 99)) return -1; was = world.yield; world.yield = n; return was;
            case 3: if (!in(n, 1, 99)) return -1; was = world.limit; world.limit = n; return was;
            default: return -1;
        }
    }

    int pays(int order) {
        int[][] all = {{0, 1, 2}, {0, 2, 1}, {1, 0, 2}, {1, 2, 0}, {2, 0, 1}, {2, 1, 0}};
        for (int[] a : all) {
            if (a[0] + 3 * a[1] + 9 * a[2] == order) {
                boolean same = Arrays.equals(a, world.order);
                world.order = a;
                return bit(!same);
            }
        }
        return -1;
    }

    int earn(int n) {
        if (!in(n, 1, 10000)) return -1;
        if (world.purse + n > 1000000) return -2;
        return world.purse += n;
    }

    int weather(int d, boolean rain) {
        if (!in(d, 0, 7)) return -1;
        if (shelf[d] == null) return -11;
        if (!(shelf[d] instanceof Cells)) return -12;
        Cells c = ((Cells) shelf[d]).copy();
        if (rain) world.rain = c;
        else world.weather = c;
        return c.cell.length;
    }

    int sky(int week, boolean rain) {
        if (!in(week, 0, 400)) return -1;
        return (rain ? world.rain : world.weather).in(week);
    }

    int weeks(int n) {
        if (!in(n, 1, 52)) return -1;
        if (world.week + n > 400) return -2;
        for (int i = 0; i < n; i++) world.weekGoesBy();
        return world.here().size();
    }

    int record(int week, int what) {
        if (!in(week, 0, 400) || !in(what, 0, 4)) return -1;
        if (week >= world.week) return -3;
        return world.records.get(week)[what];
    }

    int worth(int post, int n) {
        if (!in(post, 0, world.jobs.size() - 1) || !in(n, 1, 30)) return -1001;
        if (world.week + n > 400) return -1002;
        World a = world.twin();
        World b = world.twin();
        b.jobs.get(post).open = false;
        for (int i = 0; i < n; i++) {
            a.weekGoesBy();
            b.weekGoesBy();
        }
        return a.here().size() - b.here().size();
    }

    int lack(int good, int n) {
        if (!in(good, 0, 3) || !in(n, 1, 30) || world.week + n > 400) return -1;
        World a = world.twin();
        for (int i = 0; i < n; i++) {
            a.weekGoesBy();
            if (a.lacking[good]) return a.week - 1;
        }
        return -2;
    }

    int plan() {
        if (world.orders.size() + 2 > 30) return -2;
        if (world.week > 384) return -3;
        long best = -1;
        int answer = 0;
        World bare = world.twin();
        bare.records.clear();
        for (int food = 0; food <= 10; food++) {
            for (int fuel = 0; fuel <= 10; fuel++) {
                World a = bare.twin();
                if (food > 0) ask(a, 0, 10 * food);
                if (fuel > 0) ask(a, 1, 10 * fuel);
                int lasts = 0;
                while (lasts < 16) {
                    a.weekGoesBy();
                    if (a.lacking[0] || a.lacking[1]) break;
                    lasts++;
                }
                long score = 10000L * lasts + 100 * (20 - food - fuel) + (10 - food);
                if (score > best) {
                    best = score;
                    answer = 100 * food + fuel;
                }
            }
        }
        return answer;
    }

    int image() {
        image = world.twin();
        return world.week;
    }

    int restore() {
        if (image == null) return -3;
        world = image.twin();
        return world.week;
    }

    int count(int what) {
        World w = world;
        switch (what) {
            case 0: return w.people.size();
            case 1: return w.here().size();
            case 2: return w.away();
            case 3: return w.people.size() - w.here().size() - w.away();
            case 4: return w.acts.size();
            case 5: return w.jobs.size();
            case 6: return w.orders.size();
            case 7: return w.week;
            case 8: return w.purse;
            case 9: return w.fund;
            case 10: return w.unpaid;
            case 11: return w.grass;
            case 12: return w.voters();
            case 13: {
                int need = 0;
                for (Human h : w.here()) need += h.need(w.week, true);
                return need;
            }
            case 14: return w.landed;
            default: return -1;
        }
    }

    int keep(int d, int what, int k) {
        if (!in(d, 0, 7) || !in(what, 0, 2)) return -1;
        if (what == 1 && !isHuman(k) || what == 2 && !isAct(k)) return -1;
        if (what == 1 && world.people.get(k).gone) return -3;
        thenWeek[d] = world.week;
        if (what == 0) shelf[d] = null;
        if (what == 1) shelf[d] = world.twin().people.get(k);
        if (what == 2) shelf[d] = world.twin().acts.get(k);
        return 0;
    }

    int row(int d, int sort, int n) {
        if (!in(d, 0, 7) || !in(sort, 0, 2) || n > 120) return -1;
        if (n < 0) return -14;
        Cells c = new Cells();
        c.sort = sort;
        c.cell = new long[n];
        shelf[d] = c;
        return 0;
    }

    int put(int d, int i, int v) {
        if (!in(d, 0, 7)) return -1;
        if (shelf[d] == null) return -11;
        if (!(shelf[d] instanceof Cells)) return -12;
        Cells c = (Cells) shelf[d];
        if (!in(i, 0, c.cell.length - 1)) return -13;
        long span = c.sort == 0 ? 1L << 8 : c.sort == 1 ? 1L << 16 : 1L << 32;
        long low = Math.floorMod((long) v, span);
        c.cell[i] = low >= span / 2 ? low - span : low;
        return 0;
    }

    long element(int d, int i) {
        if (!in(d, 0, 7)) throw new IllegalArgumentException();
        if (!(shelf[d] instanceof Cells)) throw new IllegalStateException();
        Cells c = (Cells) shelf[d];
        if (!in(i, 0, c.cell.length - 1)) throw new IllegalStateException();
        return c.cell[i];
    }

    int copy(int d, int i, int e, int j, int n) {
        if (!in(d, 0, 7) || !in(e, 0, 7)) return -1;
        if (shelf[d] == null || shelf[e] == null) return -11;
        if (!(shelf[d] instanceof Cells) || !(shelf[e] instanceof Cells)) return -12;
        Cells a = (Cells) shelf[d];
        Cells b = (Cells) shelf[e];
        if (a.sort != b.sort) return -12;
        if (i < 0 || j < 0 || n < 0 || (long) i + n > a.cell.length || (long) j + n > b.cell.length) return -13;
        long[] from = a.cell.clone();
        for (int k = 0; k < n; k++) b.cell[j + k] = from[i + k];
        return n;
    }

    int weight(int d) {
        if (!in(d, 0, 7)) return -1;
        if (shelf[d] == null) return -11;
        if (shelf[d] instanceof Cells) return -12;
        if (shelf[d] instanceof Act) {
            Act a = (Act) shelf[d];
            return 1000 + a.subject + a.text.length();
        }
        Human h = (Human) shelf[d];
        int w = thenWeek[d];
        String kind = h.kind(w);
        int weight = 10 + h.need(w, false) + h.wage(w, false) + kindNumber(kind);
        if (kind.equals("CHILD")) weight += h.age(w);
        return kind.equals("GUEST") ? 2 * weight : weight;
    }

    int toss(int d) {
        if (!in(d, 0, 7)) return -1;
        if (shelf[d] == null) return -11;
        if (shelf[d] instanceof Cells) return -12;
        if (shelf[d] instanceof Act) {
            Act a = (Act) shelf[d];
            return isAct(a.no) && world.acts.get(a.no).isVoid ? -15 : a.voters;
        }
        Human h = (Human) shelf[d];
        String kind = h.kind(thenWeek[d]);
        return kind.equals("AWAY") ? -15 : kind.equals("GUEST") ? 100 + h.house : h.house;
    }
}
