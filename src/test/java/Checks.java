/** What the tests by sentences share. Each of them names the sentence of ../shared/DOC.md that it is for. */
final class Checks {
    static final int LOW = Integer.MIN_VALUE;
    static final int HIGH = Integer.MAX_VALUE;
    private static String sentence = "";
    private static int made = 0;
    private static int wrong = 0;

    private Checks() {
    }

    static void says(String words) {
        sentence = words;
    }

    static void due(String call, long got, long want) {
        made++;
        if (got != want) {
            wrong++;
            System.out.println("\"" + sentence + "\": " + call + " answered " + got + ", due is " + want);
        }
    }

    static void due(String call, String got, String want) {
        made++;
        if (!got.equals(want)) {
            wrong++;
            System.out.println("\"" + sentence + "\": " + call + " answered " + got + ", due is " + want);
        }
    }

    static void end() {
        System.out.println(made + " answers looked at, " + wrong + " not as due");
        if (wrong > 0) {
            System.exit(1);
        }
    }

    static void rowOf(IslandOffice x, int d, int sort, int... cells) {
        due("row", x.row(d, sort, cells.length), 0);
        for (int i = 0; i < cells.length; i++) {
            due("put", x.put(d, i, cells[i]), 0);
        }
    }

    static void text(IslandOffice x, int d, String letters) {
        int[] cells = new int[letters.length()];
        for (int i = 0; i < cells.length; i++) {
            cells[i] = letters.charAt(i);
        }
        rowOf(x, d, 0, cells);
    }

    /** Votes for a text with the votes of all; shelf 7 is used for it. */
    static int law(IslandOffice x, String letters) {
        text(x, 7, letters);
        return x.vote(7, x.count(12));
    }

    static String times(String part, int n) {
        StringBuilder s = new StringBuilder();
        for (int i = 0; i < n; i++) {
            s.append(part);
        }
        return s.toString();
    }

    /** Food (up to 9000) and fuel (up to 1000) for long, and nobody leaves with less than 99 of discontent. */
    static IslandOffice settled(int foodThousands) {
        IslandOffice x = new IslandOffice();
        x.set(3, 99);
        for (int i = 0; i < foodThousands; i++) {
            x.store(0, 1000);
        }
        x.store(1, 1000);
        return x;
    }

    /** In THE WEEK n, with nobody there. */
    static IslandOffice inWeek(int n) {
        IslandOffice x = new IslandOffice();
        int left = n;
        while (left > 0) {
            int step = Math.min(52, left);
            x.weeks(step);
            left -= step;
        }
        return x;
    }

    /**
     * Week 5: a mother 0 (40 years) and her child 1 (10 years) of house 0 and a hand 2 (30 years) of house 1 are
     * away; an old one 3 of house 2 is here.
     */
    static IslandOffice someAway() {
        IslandOffice x = new IslandOffice();
        x.person(-40 * 52, 0, -1, 0);
        x.person(-10 * 52, 0, 0, 0);
        x.person(-30 * 52, 1, -1, 1);
        x.person(-70 * 52, 2, -1, 0);
        x.set(3, 1);
        x.weeks(5);
        x.set(3, 99);
        return x;
    }

    static String thrown(IslandOffice x, int d, int i) {
        try {
            x.element(d, i);
            return "nothing";
        } catch (RuntimeException e) {
            return e.getClass().getName();
        }
    }
}
