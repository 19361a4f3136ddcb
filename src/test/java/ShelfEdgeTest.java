/** Term 1's shelves and promises 40 to 46: each sentence that names an edge. */
public final class ShelfEdgeTest {
    private static final int YEAR = 52;
    private static final String NO_SHELF = "java.lang.IllegalArgumentException";
    private static final String NO_ROW = "java.lang.IllegalStateException";

    public static void main(String[] args) {
        shelves();
        keepRefusals();
        keepReplaces();
        rowRefusals();
        rowsAtFirst();
        lowestBits();
        putRefusals();
        elementRefusals();
        copyRefusals();
        copyPlaces();
        copyOntoItself();
        weightsOfPeople();
        weightsAsThen();
        weightsOfLaws();
        tossOfPeople();
        tossOfLaws();
        Checks.end();
    }

    private static void due(String call, long got, long want) {
        Checks.due(call, got, want);
    }

    private static void shelves() {
        Checks.says("SHELVES 0 .. 7 each hold nothing (at first)");
        IslandOffice x = new IslandOffice();
        x.person(-1500, 0, -1, 0);
        int[] ds = {Checks.LOW, -1, 0, 7, 8, Checks.HIGH};
        for (int d : ds) {
            boolean is = d >= 0 && d <= 7;
            String shelf = "shelf " + d;
            due(shelf + ": fault", x.fault(d), is ? -11 : -1);
            due(shelf + ": vote", x.vote(d, 1), is ? -11 : -1);
            due(shelf + ": weather", x.weather(d, false), is ? -11 : -1);
            due(shelf + ": put", x.put(d, 0, 0), is ? -11 : -1);
            due(shelf + ": weight", x.weight(d), is ? -11 : -1);
            due(shelf + ": toss", x.toss(d), is ? -11 : -1);
            due(shelf + ": copy from", x.copy(d, 0, 3, 0, 0), is ? -11 : -1);
            due(shelf + ": copy to", x.copy(3, 0, d, 0, 0), is ? -11 : -1);
            Checks.due(shelf + ": element", Checks.thrown(x, d, 0), is ? NO_ROW : NO_SHELF);
            due(shelf + ": keep nothing", x.keep(d, 0, 0), is ? 0 : -1);
            due(shelf + ": keep", x.keep(d, 1, 0), is ? 0 : -1);
            due(shelf + ": row", x.row(d, 0, 3), is ? 0 : -1);
        }
    }

    private static void keepRefusals() {
        Checks.says("SHELF d gets: what = 0 nothing (the others do not matter); 1 one of PEOPLE k; 2 LAW k: 0. -1; -3: gone");
        IslandOffice x = Checks.someAway();
        due("what -1", x.keep(0, -1, 0), -1);
        due("what 3", x.keep(0, 3, 0), -1);
        due("person -1", x.keep(0, 1, -1), -1);
        due("person 4", x.keep(0, 1, 4), -1);
        due("person 3", x.keep(0, 1, 3), 0);
        due("law 0", x.keep(0, 2, 0), -1);
        Checks.law(x, "e:a>1");
        due("law -1", x.keep(0, 2, -1), -1);
        due("law 1", x.keep(0, 2, 1), -1);
        due("law 0", x.keep(0, 2, 0), 0);
        due("one away", x.keep(0, 1, 0), 0);
        x.death(0);
        due("gone while away", x.keep(0, 1, 0), -3);
        x.death(3);
        due("gone", x.keep(0, 1, 3), -3);
        x.guest(-1500, 0, 0, 5);
        due("a guest", x.keep(0, 1, 4), 0);
        x.weeks(1);
        due("a guest that left", x.keep(0, 1, 4), -3);
        x.found(0, 0);
        due("a VOID law", x.keep(0, 2, 0), 0);
        due("nothing", x.keep(0, 0, -77), 0);
        due("nothing", x.keep(1, 0, Checks.HIGH), 0);
        due("nothing", x.weight(0), -11);
    }

    private static void keepReplaces() {
        Checks.says("SHELVES each hold nothing, one of PEOPLE, a LAW, a ROW");
        IslandOffice x = new IslandOffice();
        x.person(-1500, 9, -1, 0);
        Checks.law(x, "p:a>1");
        int[] weights = {-11, 13, 1006, -12};
        int[] tosses = {-11, 9, 1, -12};
        int[] puts = {-11, -12, -12, 0};
        int[] faults = {-11, -12, -12, 0};
        for (int before = 0; before < 4; before++) {
            for (int then = 0; then < 4; then++) {
                fill(x, before);
                fill(x, then);
                String call = before + " then " + then;
                due(call + ": weight", x.weight(5), weights[then]);
                due(call + ": toss", x.toss(5), tosses[then]);
                due(call + ": fault", x.fault(5), faults[then]);
                due(call + ": put", x.put(5, 1, 7), puts[then]);
                Checks.due(call + ": element", Checks.thrown(x, 5, 1), then == 3 ? "nothing" : NO_ROW);
                due(call + ": copy", x.copy(5, 0, 5, 0, 2), then == 0 ? -11 : then == 3 ? 2 : -12);
            }
        }
    }

    private static void fill(IslandOffice x, int with) {
        due("fill", with == 3 ? x.row(5, 0, 2) : x.keep(5, with, 0), 0);
    }

    private static void rowRefusals() {
        Checks.says("SHELF d gets a ROW of a SORT: 0. -1 (n above 120); -14");
        IslandOffice x = new IslandOffice();
        due("sort -1", x.row(0, -1, 3), -1);
        due("sort 3", x.row(0, 3, 3), -1);
        for (int sort = 0; sort < 3; sort++) {
            due("n 121", x.row(0, sort, 121), -1);
            due("n wild", x.row(0, sort, Checks.HIGH), -1);
            due("n -1", x.row(0, sort, -1), -14);
            due("n wild", x.row(0, sort, Checks.LOW), -14);
            due("n 120", x.row(0, sort, 120), 0);
            due("place 119", x.put(0, 119, 1), 0);
            due("place 120", x.put(0, 120, 1), -13);
            due("n 0", x.row(0, sort, 0), 0);
            due("place 0", x.put(0, 0, 1), -13);
            due("n 1", x.row(0, sort, 1), 0);
            due("place 0", x.put(0, 0, 1), 0);
            due("place 1", x.put(0, 1, 1), -13);
        }
        due("sort 3, n -1", x.row(0, 3, -1), -1);
        due("shelf 8, n -1", x.row(8, 0, -1), -1);
        due("the row stays", x.element(0, 0), 1);
    }

    private static void rowsAtFirst() {
        Checks.says("0 .. 120 elements, 0 at first");
        IslandOffice x = new IslandOffice();
        x.row(0, 2, 120);
        for (int i = 0; i < 120; i++) {
            x.put(0, i, i + 1);
        }
        x.row(0, 1, 120);
        for (int i = 0; i < 120; i++) {
            due("element " + i, x.element(0, i), 0);
        }
        x.put(0, 3, 5);
        x.row(0, 1, 4);
        due("element 3 of a new one", x.element(0, 3), 0);
        x.put(0, 3, 5);
        x.keep(0, 0, 0);
        x.row(0, 1, 4);
        due("element 3 behind nothing", x.element(0, 3), 0);
    }

    private static void lowestBits() {
        Checks.says("what is put in keeps its lowest bits");
        int[] in = {0, 1, -1, 127, 128, 129, 255, 256, -128, -129, 32767, 32768, 65535, 65536, -32768, -32769,
            Checks.HIGH, Checks.LOW};
        long[] bytes = {0, 1, -1, 127, -128, -127, -1, 0, -128, 127, -1, 0, -1, 0, 0, -1, -1, 0};
        long[] shorts = {0, 1, -1, 127, 128, 129, 255, 256, -128, -129, 32767, -32768, -1, 0, -32768, 32767, -1, 0};
        IslandOffice x = new IslandOffice();
        for (int sort = 0; sort < 3; sort++) {
            x.row(sort, sort, in.length);
            for (int i = 0; i < in.length; i++) {
                due("put", x.put(sort, i, in[i]), 0);
                long want = sort == 0 ? bytes[i] : sort == 1 ? shorts[i] : in[i];
                due(in[i] + " in SORT " + sort, x.element(sort, i), want);
            }
        }
    }

    private static void putRefusals() {
        Checks.says("Element i of the ROW becomes v: 0. -1, -11, -12, -13");
        IslandOffice x = new IslandOffice();
        x.person(-1500, 0, -1, 0);
        x.keep(1, 1, 0);
        x.row(2, 0, 5);
        int[] places = {Checks.LOW, -1, 0, 4, 5, 119, 120, Checks.HIGH};
        for (int i : places) {
            due("no shelf, " + i, x.put(8, i, 9), -1);
            due("nothing, " + i, x.put(0, i, 9), -11);
            due("a person, " + i, x.put(1, i, 9), -12);
            due("a row of 5, " + i, x.put(2, i, 9), i >= 0 && i < 5 ? 0 : -13);
        }
        long[] want = {9, 0, 0, 0, 9};
        for (int i = 0; i < 5; i++) {
            due("element " + i, x.element(2, i), want[i]);
        }
    }

    private static void elementRefusals() {
        Checks.says("IllegalArgumentException: no such SHELF; IllegalStateException: no ROW, no such place");
        IslandOffice x = new IslandOffice();
        x.person(-1500, 0, -1, 0);
        Checks.law(x, "e:a>1");
        x.keep(1, 1, 0);
        x.keep(2, 2, 0);
        x.row(3, 1, 0);
        x.row(4, 2, 120);
        int[] places = {Checks.LOW, -1, 0, 1, 119, 120, Checks.HIGH};
        for (int i : places) {
            Checks.due("shelf -1, " + i, Checks.thrown(x, -1, i), NO_SHELF);
            Checks.due("shelf 8, " + i, Checks.thrown(x, 8, i), NO_SHELF);
            Checks.due("nothing, " + i, Checks.thrown(x, 0, i), NO_ROW);
            Checks.due("a person, " + i, Checks.thrown(x, 1, i), NO_ROW);
            Checks.due("a law, " + i, Checks.thrown(x, 2, i), NO_ROW);
            Checks.due("an empty row, " + i, Checks.thrown(x, 3, i), NO_ROW);
            Checks.due("a full row, " + i, Checks.thrown(x, 4, i), i >= 0 && i < 120 ? "nothing" : NO_ROW);
        }
        // A shelf that held a row once: its places are no more.
        x.row(5, 0, 9);
        x.keep(5, 1, 0);
        Checks.due("a person behind a row", Checks.thrown(x, 5, 3), NO_ROW);
        x.row(5, 0, 2);
        Checks.due("a shorter row", Checks.thrown(x, 5, 3), NO_ROW);
    }

    private static void copyRefusals() {
        Checks.says("copy: -1, -11 (either), -12 (no ROWS of one SORT), -13 (n below 0, too)");
        IslandOffice x = new IslandOffice();
        x.person(-1500, 0, -1, 0);
        Checks.law(x, "e:a>1");
        x.keep(1, 1, 0);
        x.keep(2, 2, 0);
        x.row(3, 0, 4);
        x.row(4, 1, 4);
        x.row(5, 2, 4);
        int[][] want = {
            {-11, -11, -11, -11, -11, -11}, {-11, -12, -12, -12, -12, -12}, {-11, -12, -12, -12, -12, -12},
            {-11, -12, -12, 2, -12, -12}, {-11, -12, -12, -12, 2, -12}, {-11, -12, -12, -12, -12, 2}};
        for (int d = -1; d <= 8; d++) {
            for (int e = -1; e <= 8; e++) {
                if (d == 6 || d == 7 || e == 6 || e == 7) {
                    continue;
                }
                boolean are = d >= 0 && d < 8 && e >= 0 && e < 8;
                due("copy " + d + " to " + e, x.copy(d, 1, e, 2, 2), !are ? -1 : want[d][e]);
                int worse = !are ? -1 : want[d][e] == 2 ? -13 : want[d][e];
                due("copy " + d + " to " + e + ", no such place", x.copy(d, 3, e, 2, 2), worse);
            }
        }
    }

    private static void copyPlaces() {
        Checks.says("n elements of the ROW in SHELF d from i on come to that in SHELF e from j on: n; -13 (n below 0, too)");
        IslandOffice x = new IslandOffice();
        int made = 0;
        for (int i = -1; i <= 4; i++) {
            for (int j = -1; j <= 3; j++) {
                for (int n = -1; n <= 4; n++) {
                    if (made % 50 == 0) {
                        x = new IslandOffice();
                    }
                    made++;
                    Checks.rowOf(x, 0, 1, 11, 12, 13);
                    x.row(1, 1, 2);
                    boolean are = i >= 0 && j >= 0 && n >= 0 && i + n <= 3 && j + n <= 2;
                    String call = "copy(0, " + i + ", 1, " + j + ", " + n + ")";
                    due(call, x.copy(0, i, 1, j, n), are ? n : -13);
                    for (int k = 0; k < 2; k++) {
                        boolean came = are && k >= j && k < j + n;
                        due(call + ": element " + k, x.element(1, k), came ? 11 + i + k - j : 0);
                    }
                }
            }
        }
        int[] wild = {Checks.LOW, Checks.HIGH};
        for (int w : wild) {
            due("i wild", x.copy(0, w, 1, 0, 1), -13);
            due("j wild", x.copy(0, 0, 1, w, 1), -13);
            due("n wild", x.copy(0, 0, 1, 0, w), -13);
            due("i and n wild", x.copy(0, w, 1, 0, w), -13);
            due("all wild", x.copy(0, w, 1, w, w), -13);
            due("i wild, n 0", x.copy(0, w, 1, 0, 0), -13);
        }
        due("i 1 and n wild", x.copy(0, 1, 1, 0, Checks.HIGH), -13);
        x.row(2, 2, 120);
        x.row(3, 2, 120);
        x.put(2, 119, 5);
        due("all 120", x.copy(2, 0, 3, 0, 120), 120);
        due("the last", x.element(3, 119), 5);
        due("121", x.copy(2, 0, 3, 0, 121), -13);
        due("119 to 0", x.copy(2, 119, 3, 0, 1), 1);
        due("the first", x.element(3, 0), 5);
    }

    private static void copyOntoItself() {
        Checks.says("copy of a ROW onto itself");
        int[][] want = {{1, 2, 3, 4, 5}, {1, 1, 2, 3, 4}, {1, 2, 1, 2, 3}, {2, 3, 4, 5, 5}, {4, 5, 3, 4, 5}};
        int[] froms = {0, 0, 0, 1, 3};
        int[] tos = {0, 1, 2, 0, 0};
        int[] ns = {5, 4, 3, 4, 2};
        for (int k = 0; k < want.length; k++) {
            IslandOffice x = new IslandOffice();
            Checks.rowOf(x, 4, 2, 1, 2, 3, 4, 5);
            due("copy", x.copy(4, froms[k], 4, tos[k], ns[k]), ns[k]);
            for (int i = 0; i < 5; i++) {
                due("case " + k + ", element " + i, x.element(4, i), want[k][i]);
            }
        }
    }

    private static int weightOf(IslandOffice x, int p) {
        due("keep " + p, x.keep(0, 1, p), 0);
        return x.weight(0);
    }

    private static void weightsOfPeople() {
        Checks.says("of one of PEOPLE 10, NEED, WAGE (both without a POST) and KIND; of CHILDREN AGE more; of GUESTS twice");
        IslandOffice x = Checks.settled(1);
        x.person(-1500, 0, -1, 0);
        x.person(0, 0, -1, 0);
        x.person(-52, 0, -1, 255);
        x.person(-16 * YEAR + 2, 0, -1, 0);
        x.person(-1500, 0, -1, 1);
        x.person(-65 * YEAR, 0, -1, 1);
        x.guest(0, 0, 0, 400);
        x.guest(-1500, 0, 1, 400);
        int[] want = {13, 13, 14, 28, 15, 18, 38, 38};
        for (int p = 0; p < 8; p++) {
            due("WEIGHT of " + p, weightOf(x, p), want[p]);
        }
        x.post(0, 2, 0);
        x.weeks(1);
        due("a HAND has a POST", x.about(4, 7), 0);
        due("a GUEST has a POST", x.about(7, 7), 0);
        for (int p = 0; p < 8; p++) {
            due("WEIGHT of " + p + " in week 1", weightOf(x, p), want[p]);
        }
        IslandOffice y = Checks.someAway();
        for (int p = 0; p < 3; p++) {
            due("AWAY " + p, weightOf(y, p), 13);
        }
    }

    private static void weightsAsThen() {
        Checks.says("one of PEOPLE (as then); AGE (as then)");
        IslandOffice x = Checks.settled(1);
        x.person(-51, 0, -1, 0);
        x.keep(0, 1, 0);
        x.weeks(1);
        due("AGE 0 then", x.weight(0), 13);
        x.keep(1, 1, 0);
        due("AGE 1 now", x.weight(1), 14);
        x.death(0);
        due("gone since", x.weight(1), 14);
        x.person(-1500, 3, -1, 0);
        x.keep(2, 1, 1);
        x.skill(1, 0, true);
        due("a PERSON then", x.weight(2), 13);
        x.keep(2, 1, 1);
        due("a HAND now", x.weight(2), 15);
        x.move(1, 5);
        due("the HOUSE then", x.toss(2), 3);
        x.keep(2, 1, 1);
        due("the HOUSE now", x.toss(2), 5);
    }

    private static void weightsOfLaws() {
        Checks.says("of a LAW 1000, its SUBJECT and the size of its text. -1, -11, -12 (a ROW)");
        String[] texts = {"v:1=1", "p:1=1", "e:a+1=1", "l:" + Checks.times("!", 115) + "1=2"};
        int[] want = {1005, 1006, 1009, 1123};
        IslandOffice x = new IslandOffice();
        x.person(-1500, 0, -1, 0);
        for (int law = 0; law < 4; law++) {
            due("law", Checks.law(x, texts[law]), law);
            x.keep(law, 2, law);
            due("WEIGHT of " + texts[law], x.weight(law), want[law]);
        }
        x.found(0, 0);
        x.repeal(1);
        due("VOID", x.weight(0), 1005);
        due("repealed", x.weight(1), 1006);
        x.row(5, 0, 3);
        due("a row", x.weight(5), -12);
        due("nothing", x.weight(6), -11);
        due("shelf 8", x.weight(8), -1);
    }

    private static void tossOfPeople() {
        Checks.says("of one of PEOPLE the HOUSE (of GUESTS 100 more); -15: AWAY ones (as then)");
        IslandOffice x = Checks.someAway();
        x.guest(-1500, 0, 0, 400);
        x.guest(-1500, 11, 0, 400);
        x.person(-1500, 11, -1, 0);
        x.person(-100, 0, -1, 0);
        int[] want = {-15, -15, -15, 2, 100, 111, 11, 0};
        for (int p = 0; p < 8; p++) {
            x.keep(p, 1, p);
            due("FAILURE of " + p, x.toss(p), want[p]);
        }
        x.back(0);
        due("AWAY as then", x.toss(0), -15);
        x.keep(0, 1, 0);
        due("here now", x.toss(0), 0);
        x.death(3);
        x.death(5);
        due("gone since", x.toss(3), 2);
        due("a guest gone since", x.toss(5), 111);
        IslandOffice y = new IslandOffice();
        y.person(-1500, 6, -1, 0);
        y.set(3, 1);
        y.keep(0, 1, 0);
        y.weeks(5);
        due("away since", y.about(0, 5), 1);
        due("here as then", y.toss(0), 6);
        y.row(0, 0, 2);
        due("a row", y.toss(0), -12);
        due("nothing", y.toss(1), -11);
        due("shelf -1", y.toss(-1), -1);
        due("shelf 8", y.toss(8), -1);
    }

    private static void tossOfLaws() {
        Checks.says("of a LAW its VOTERS; -15: LAWS whose number is that of one that is VOID now");
        IslandOffice x = new IslandOffice();
        x.person(-1500, 0, -1, 0);
        x.person(-1500, 0, -1, 0);
        x.image();
        Checks.law(x, "e:a>1");
        x.person(-1500, 0, -1, 0);
        Checks.law(x, "e:a>1");
        x.keep(0, 2, 0);
        x.keep(1, 2, 1);
        due("VOTERS of 0", x.toss(0), 2);
        due("VOTERS of 1", x.toss(1), 3);
        x.repeal(1);
        due("repealed", x.toss(1), 3);
        x.found(0, 1);
        due("VOID now", x.toss(0), -15);
        due("1 isn't", x.toss(1), 3);
        x.restore();
        due("no LAW of that number", x.toss(0), 2);
        due("no LAW of that number", x.toss(1), 3);
        x.death(0);
        Checks.law(x, "l:a>1");
        due("another of that number", x.toss(0), 2);
        x.found(0, 0);
        due("another of that number is VOID", x.toss(0), -15);
        due("none of number 1", x.toss(1), 3);
        x.keep(2, 2, 0);
        due("kept as VOID", x.toss(2), -15);
        x.restore();
        due("none is VOID now", x.toss(2), 1);
        // A person's number has nothing to do with a law's.
        x.keep(3, 1, 1);
        Checks.law(x, "e:a>1");
        Checks.law(x, "e:a>1");
        x.found(1, 0);
        due("person 1, and law 1 is VOID", x.toss(3), 0);
    }
}
