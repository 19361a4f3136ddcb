/** Term 2 and promises 12 to 18: each sentence that names an edge. */
public final class LawEdgeTest {
    private static final int YEAR = 52;
    private static final String DIGITS = "0123456789";
    private static final String ATOMS = DIGITS + "akhcswd";
    private static final String FACTORS = "!(" + ATOMS;
    private static final String LEFT = "+-<>=";
    private static final String RIGHT = "+-&|";

    public static void main(String[] args) {
        nextBytes();
        subjects();
        numbers();
        brackets();
        sizes();
        faultRefusals();
        fields();
        weekField();
        discontentField();
        fieldsInAWeek();
        sums();
        tests();
        joints();
        longTexts();
        textsInTurn();
        lawsMax();
        firstWeeks();
        inForce();
        repealed();
        withoutLaw();
        voters();
        majorities();
        voteRefusals();
        foundShort();
        hanging();
        notHanging();
        repealRefusals();
        mayRefusals();
        parts();
        Checks.end();
    }

    private static void due(String call, long got, long want) {
        Checks.due(call, got, want);
    }

    private static int faultOf(String letters) {
        IslandOffice x = new IslandOffice();
        Checks.text(x, 0, letters);
        return x.fault(0);
    }

    /** Behind a text: which bytes a law can go on with, and whether it may end there. */
    private static void behind(String text, String taken, boolean isLaw) {
        Checks.due("fault of " + text, faultOf(text), isLaw ? -2 : text.length());
        for (int first = -128; first < 128; first += 64) {
            IslandOffice x = new IslandOffice();
            Checks.text(x, 0, text + " ");
            for (int c = first; c < first + 64; c++) {
                x.put(0, text.length(), c);
                boolean goesOn = c > 0 && taken.indexOf((char) c) >= 0;
                int fault = x.fault(0);
                boolean is = fault == -2 || fault == text.length() + 1;
                due("fault of " + text + " and byte " + c, is ? 1 : fault, goesOn ? 1 : text.length());
            }
        }
    }

    private static void nextBytes() {
        Checks.says("FAULT: the place of the first byte with which no LAW can go on (the size, if it ends too early)");
        behind("", "vpel", false);
        behind("v", ":", false);
        behind("p", ":", false);
        behind("e", ":", false);
        behind("l", ":", false);
        behind("v:", FACTORS, false);
        behind("l:!", FACTORS, false);
        behind("e:!!!", FACTORS, false);
        behind("p:(", FACTORS, false);
        behind("v:!(", FACTORS, false);
        for (int i = 0; i < 7; i++) {
            behind("v:" + "akhcswd".charAt(i), LEFT, false);
            behind("v:a<" + "akhcswd".charAt(i), RIGHT, true);
        }
        behind("v:0", LEFT, false);
        behind("v:1", DIGITS + LEFT, false);
        behind("v:12", DIGITS + LEFT, false);
        behind("v:123", DIGITS + LEFT, false);
        behind("v:1234", LEFT, false);
        behind("v:1000", LEFT, false);
        behind("v:a+", ATOMS, false);
        behind("v:a-", ATOMS, false);
        behind("v:a+0", LEFT, false);
        behind("v:a-9", DIGITS + LEFT, false);
        behind("v:a-9999", LEFT, false);
        behind("v:a<", ATOMS, false);
        behind("v:a>", ATOMS, false);
        behind("v:a=", ATOMS, false);
        behind("v:a<0", RIGHT, true);
        behind("v:a>1", DIGITS + RIGHT, true);
        behind("v:a=1234", RIGHT, true);
        behind("v:a<1+", ATOMS, false);
        behind("v:a<1-", ATOMS, false);
        behind("v:a<1+2", DIGITS + RIGHT, true);
        behind("v:a<k+0", RIGHT, true);
        behind("v:a<1&", FACTORS, false);
        behind("v:a<1|", FACTORS, false);
        behind("v:a<1&!", FACTORS, false);
        bytesInBrackets();
    }

    private static void bytesInBrackets() {
        behind("v:(a", LEFT, false);
        behind("v:(a<1", DIGITS + RIGHT + ")", false);
        behind("v:(a<k", RIGHT + ")", false);
        behind("v:(a<k)", "&|", true);
        behind("v:((a<k)", "&|)", false);
        behind("v:((a<k))", "&|", true);
        behind("v:(a<k)&", FACTORS, false);
        behind("v:!(a<k)", "&|", true);
        behind("v:(a<k&", FACTORS, false);
        behind("v:(!a<k", RIGHT + ")", false);
        String seven = Checks.times("(", 7);
        String eight = Checks.times("(", 8);
        String noBracket = "!" + ATOMS;
        behind("v:" + seven, FACTORS, false);
        behind("v:" + eight, noBracket, false);
        behind("v:" + eight + "!", noBracket, false);
        behind("v:" + eight + "a<k&", noBracket, false);
        behind("v:" + eight + "a<k)", "&|)", false);
        behind("v:" + eight + "a<k)&", FACTORS, false);
        behind("v:" + eight + "a<k" + Checks.times(")", 7), "&|)", false);
        behind("v:" + eight + "a<k" + Checks.times(")", 8), "&|", true);
        behind("v:" + eight + "a<k" + Checks.times(")", 8) + "|" + eight, noBracket, false);
    }

    private static void subjects() {
        Checks.says("SUBJECTS: v (who votes), p (who holds POSTS), e (who eats first), l (who may leave)");
        IslandOffice x = new IslandOffice();
        x.person(-1500, 0, -1, 0);
        String letters = "vpel";
        for (int s = 0; s < 4; s++) {
            due("law", Checks.law(x, letters.charAt(s) + ":a>" + s), s);
            due("SUBJECT", x.law(s, 0), s);
            due("force", x.force(s, 1), s);
        }
    }

    private static void numbers() {
        Checks.says("a NUMBER of 1 to 4 digits without 0 ahead of other digits");
        due("0", faultOf("v:0=0"), -2);
        due("9", faultOf("v:9=9"), -2);
        due("9999", faultOf("v:9999=9999"), -2);
        due("1000", faultOf("v:1000=1000"), -2);
        due("10000", faultOf("v:10000=1"), 6);
        due("right 10000", faultOf("v:1=10000"), 8);
        due("00", faultOf("v:00=0"), 3);
        due("right 00", faultOf("v:0=00"), 5);
        due("09", faultOf("v:0=09"), 5);
        due("0009", faultOf("v:0009=9"), 3);
        due("behind +", faultOf("v:1+01=2"), 5);
        due("5 digits behind +", faultOf("v:1+99999=2"), 8);
    }

    private static void brackets() {
        Checks.says("( is at most 8 deep");
        for (int deep = 1; deep <= 10; deep++) {
            String text = "v:" + Checks.times("(", deep) + "a<3" + Checks.times(")", deep);
            due(deep + " deep", faultOf(text), deep <= 8 ? -2 : 10);
            String nots = "v:" + Checks.times("!(", deep) + "a<3" + Checks.times(")", deep);
            due(deep + " deep with !", faultOf(nots), deep <= 8 ? -2 : 19);
            due("one too few )", faultOf("v:" + Checks.times("(", Math.min(8, deep)) + "a<3"), 5 + Math.min(8, deep));
        }
        due("one ) too many", faultOf("v:(a<3))"), 7);
        due("none open", faultOf("v:a<3)"), 5);
        due("( ahead of a sum", faultOf("v:(a)<3"), 4);
        due("( in a sum", faultOf("v:a+(3)<9"), 4);
        due("( behind a test", faultOf("v:a<(3)"), 4);
    }

    private static void sizes() {
        Checks.says("(the size, if it ends too early)");
        String law = "e:!(h>1)&a+1>29|k=2";
        for (int size = 0; size <= law.length(); size++) {
            boolean isLaw = size == 8 || size == 14 || size == 15 || size == 19;
            due("the first " + size + " of " + law, faultOf(law.substring(0, size)), isLaw ? -2 : size);
        }
        due("120 bytes", faultOf("v:" + Checks.times("!", 115) + "a<3"), -2);
        due("120 bytes, too early", faultOf("v:" + Checks.times("!", 118)), 120);
        due("120 bytes, a fault in the last", faultOf("v:" + Checks.times("!", 115) + "a<)"), 119);
        due("119 bytes, too early", faultOf("v:" + Checks.times("!", 114) + "(a<"), 119);
        due("no bytes", faultOf(""), 0);
    }

    private static void faultRefusals() {
        Checks.says("The FAULT of the text in SHELF d; -2: it is a LAW. -1, -11, -12 (no ROW of bytes)");
        IslandOffice x = new IslandOffice();
        due("shelf -1", x.fault(-1), -1);
        due("shelf 8", x.fault(8), -1);
        due("nothing", x.fault(7), -11);
        x.row(7, 1, 0);
        due("a row of shorts", x.fault(7), -12);
        x.row(7, 2, 0);
        due("a row of ints", x.fault(7), -12);
        x.row(7, 0, 0);
        due("an empty row of bytes", x.fault(7), 0);
        x.person(-1500, 0, -1, 0);
        x.keep(7, 1, 0);
        due("a person", x.fault(7), -12);
        Checks.text(x, 0, "v:a<3");
        due("a law", x.fault(0), -2);
        x.vote(0, 1);
        x.keep(7, 2, 0);
        due("what was made, kept", x.fault(7), -12);
        x.keep(7, 0, 0);
        due("nothing again", x.fault(7), -11);
    }

    /**
     * Week 1: person 0 (28 years, 5 skills, DISCONTENT 0) lives with two others and 7 of cattle; of a subject in
     * force only l's law, which is the condition.
     */
    private static int holds(String condition) {
        IslandOffice x = Checks.settled(1);
        x.person(-28 * YEAR, 2, -1, 0b11010110);
        x.person(-1500, 2, -1, 0);
        x.guest(-1500, 2, 0, 400);
        x.guest(-1500, 2, 0, 0);
        x.person(-1500, 3, -1, 0);
        x.house(2, 7, 3);
        due("made " + condition, Checks.law(x, "l:" + condition), 0);
        x.weeks(1);
        return x.may(0, 3);
    }

    private static void is(String condition, boolean want) {
        due(condition, holds(condition), want ? 1 : 0);
    }

    private static void fields() {
        Checks.says("a AGE, k KIND, h HEADS of the HOUSE, c CATTLE of the HOUSE, s how many SKILLS, w, d");
        String letters = "akhcswd";
        int[] want = {28, 2, 3, 7, 5, 1, 0};
        for (int i = 0; i < want.length; i++) {
            is(letters.charAt(i) + "=" + want[i], true);
            is(want[i] + "=" + letters.charAt(i), true);
        }
        Checks.says("k KIND");
        IslandOffice x = Checks.settled(1);
        x.person(-1500, 0, -1, 0);
        x.person(-100, 0, -1, 0);
        x.person(-1500, 0, -1, 9);
        x.person(-4000, 0, -1, 0);
        x.guest(-1500, 0, 9, 400);
        int[] kinds = {0, 1, 2, 4, 5};
        for (int k = 0; k < 5; k++) {
            Checks.law(x, "l:k=" + kinds[k]);
            x.weeks(1);
            for (int p = 0; p < 5; p++) {
                due("k=" + kinds[k] + " of " + p, x.may(p, 3), p == k ? 1 : 0);
            }
        }
    }

    private static void weekField() {
        Checks.says("w THE WEEK modulo 52");
        IslandOffice x = Checks.settled(0);
        x.person(-1500, 0, -1, 0);
        Checks.law(x, "l:1=2");
        Checks.law(x, "e:w=51");
        Checks.law(x, "p:w=0");
        int[] weeks = {1, 50, 51, 52, 53, 103, 104, 105};
        for (int week : weeks) {
            x.weeks(week - x.count(7));
            due("w=51 in week " + week, x.may(0, 2), week % 52 == 51 ? 1 : 0);
            due("w=0 in week " + week, x.may(0, 1), week % 52 == 0 ? 1 : 0);
        }
    }

    private static void discontentField() {
        Checks.says("d DISCONTENT");
        IslandOffice x = new IslandOffice();
        x.set(3, 99);
        x.person(-1500, 0, -1, 0);
        x.store(1, 2);
        Checks.law(x, "e:d=2");
        Checks.law(x, "l:d=4");
        x.weeks(1);
        due("d", x.about(0, 6), 2);
        due("d=2", x.may(0, 2), 1);
        due("d=4", x.may(0, 3), 0);
        x.weeks(1);
        due("d", x.about(0, 6), 4);
        due("d=2", x.may(0, 2), 0);
        due("d=4", x.may(0, 3), 1);
        x.weeks(1);
        due("d", x.about(0, 6), 7);
        due("d=4", x.may(0, 3), 0);
        IslandOffice y = new IslandOffice();
        y.person(-1500, 0, -1, 0);
        Checks.law(y, "l:1=2");
        Checks.law(y, "e:d=99");
        // 3 a week; 4 since week 20, as the tank is empty.
        y.weeks(29);
        due("d", y.about(0, 6), 96);
        due("d=99", y.may(0, 2), 0);
        y.weeks(1);
        due("d", y.about(0, 6), 99);
        due("d=99", y.may(0, 2), 1);
        y.weeks(1);
        due("still d=99", y.may(0, 2), 1);
    }

    private static void fieldsInAWeek() {
        Checks.says("h, c in a week: as they are when the LAW is asked");
        IslandOffice x = Checks.settled(1);
        x.person(-1500, 0, -1, 1);
        x.guest(-1500, 0, 0, 1);
        x.post(0, 1, 0);
        Checks.law(x, "p:h=1");
        x.weeks(1);
        due("not yet", x.filled(), 0);
        x.weeks(1);
        due("the guest was gone before POSTS were filled", x.about(0, 7), 0);
        IslandOffice y = Checks.settled(1);
        y.person(-1500, 0, -1, 1);
        y.post(0, 1, 0);
        y.house(0, 20, 9);
        Checks.law(y, "p:c=10");
        y.weeks(4);
        y.store(2, 7);
        y.house(1, 13, 9);
        due("grass", y.count(11), 20);
        y.house(0, 20, 9);
        y.weeks(1);
        due("20 on grass", y.home(0, 1), 20);
        due("not yet", y.about(0, 7), -2);
        y.store(2, 10);
        y.weeks(1);
        due("10 on hay, 10 died", y.home(0, 1), 10);
        due("before POSTS were filled", y.about(0, 7), 0);
    }

    private static void sums() {
        Checks.says("from the left: a - b - c is (a - b) - c");
        is("10-3-2=5", true);
        is("10-3-2=9", false);
        is("5=10-3-2", true);
        is("10-3+2=9", true);
        is("10-3+2=5", false);
        is("9=10-3+2", true);
        is("10+3-2=11", true);
        is("20-1-2-3-4=10", true);
        is("a-k-c-s=14", true);
        is("1-2-3<0-3", true);
        is("0-1=1-2", true);
        is("0-9999-9999<0-9999", true);
        is("9999+9999>9999", true);
        is("10-3-2<5", false);
        is("10-3-2>5", false);
    }

    private static void tests() {
        Checks.says("SUM, one of < > =, SUM");
        String signs = "<>=";
        for (int s = 0; s < 3; s++) {
            for (int left = 0; left < 3; left++) {
                boolean want = s == 0 ? left < 1 : s == 1 ? left > 1 : left == 1;
                is(left + "" + signs.charAt(s) + "1", want);
                is(left + "+998" + signs.charAt(s) + "999", want);
            }
        }
        is("9999=9999", true);
        is("9998=9999", false);
        is("9998<9999", true);
        is("1000=999+1", true);
        is("1234=1000+200+30+4", true);
    }

    private static void joints() {
        Checks.says("EXPR: TERM, or TERM | EXPR. TERM: FACTOR, or FACTOR & TERM. FACTOR: ! FACTOR; ( EXPR ); ..");
        boolean[] both = {false, true};
        for (boolean a : both) {
            for (boolean b : both) {
                for (boolean c : both) {
                    joint(a, b, c);
                }
            }
        }
        is("!!1=1", true);
        is("!!!1=1", false);
        is("!(!(1=1))", true);
        is("!!(1=2)", false);
        is("((((((((1=2))))))))|1=1", true);
        is("!(!(!(!(!(!(!(!(1=1))))))))", true);
        is("!(!(!(!(!(!(!(1=1)))))))", false);
    }

    private static String test(boolean is) {
        return is ? "1=1" : "1=2";
    }

    private static void joint(boolean x, boolean y, boolean z) {
        String a = test(x);
        String b = test(y);
        String c = test(z);
        is(a + "&" + b + "&" + c, x && y && z);
        is(a + "|" + b + "|" + c, x || y || z);
        is(a + "|" + b + "&" + c, x || y && z);
        is(a + "&" + b + "|" + c, x && y || z);
        is("(" + a + "|" + b + ")&" + c, (x || y) && z);
        is(a + "&(" + b + "|" + c + ")", x && (y || z));
        is("!" + a + "&" + b + "|" + c, !x && y || z);
        is("!" + a + "|" + b + "&!" + c, !x || y && !z);
        is("!(" + a + "&" + b + ")|" + c, !(x && y) || z);
        is("!(" + a + "|" + b + ")&" + c, !(x || y) && z);
        is("!(!" + a + "&!(" + b + "|" + c + "))", x || y || z);
    }

    private static void longTexts() {
        Checks.says("0 .. 120 elements: a text of 120 bytes");
        is(Checks.times("1+", 57) + "1=58", true);
        is(Checks.times("1+", 57) + "1=57", false);
        is(Checks.times("!", 115) + "1=1", false);
        is(Checks.times("!", 114) + "1=10", false);
        is(Checks.times("!", 114) + "1=1", true);
        is("1=" + Checks.times("0+", 57) + "1", true);
        is("58=" + Checks.times("1+", 57) + "1", true);
        is(Checks.times("1=2|", 28) + "1=10", false);
        is(Checks.times("1=2|", 28) + "10=10", true);
        is(Checks.times("1=1&", 28) + "10=10", true);
        is(Checks.times("1=1&", 28) + "1=10", false);
    }

    private static void textsInTurn() {
        Checks.says("a text is read anew, whatever was read before it");
        String[] before = {"v:a<1&", "v:!", "v:!!(", "v:a<1|b", "v:((a<1", "v:1+", "v:a-1<", "e:99x", "", "v:0<00", "l:a=1"};
        String[] laws = {"l:1=1", "l:1=2", "l:!1=2", "l:(1=1)", "l:3-1-1=1", "l:1=2|1=1", "l:1=1&1=2"};
        int[] want = {1, 0, 1, 1, 1, 1, 0};
        for (String other : before) {
            IslandOffice x = Checks.settled(1);
            x.person(-1500, 0, -1, 0);
            for (int k = 0; k < laws.length; k++) {
                Checks.text(x, 0, other);
                x.fault(0);
                due("made", Checks.law(x, laws[k]), k);
                Checks.text(x, 0, other);
                x.fault(0);
                x.weeks(1);
                due(laws[k] + " between readings of " + other, x.may(0, 3), want[k]);
            }
        }
    }

    private static void lawsMax() {
        Checks.says("LAWS are numbered as they are made, 12 at most");
        IslandOffice x = new IslandOffice();
        x.person(-1500, 0, -1, 0);
        for (int law = 0; law < 12; law++) {
            due("law", Checks.law(x, "e:a=" + law), law);
        }
        due("the thirteenth", Checks.law(x, "e:a=13"), -2);
        due("law 11", x.law(11, 0), 2);
        due("law 12", x.law(12, 0), -1);
        x.found(5, 0);
        due("VOID ones keep their numbers", Checks.law(x, "e:a=13"), -2);
        x.repeal(6);
        x.weeks(1);
        due("repealed ones, too", Checks.law(x, "e:a=13"), -2);
        due("laws", x.count(4), 12);
    }

    private static void firstWeeks() {
        Checks.says("it is MADE, from the next WEEK on");
        IslandOffice x = Checks.settled(1);
        x.person(-1500, 0, -1, 0);
        x.weeks(7);
        Checks.law(x, "e:a>1");
        due("its first WEEK", x.law(0, 1), 8);
        due("force in week 7", x.force(2, 7), -2);
        due("force in week 8", x.force(2, 8), 0);
        due("force in week 400", x.force(2, 400), 0);
        due("not in this WEEK", x.may(0, 2), 0);
        x.weeks(1);
        due("in the next", x.may(0, 2), 1);
        IslandOffice y = Checks.inWeek(399);
        y.person(-1500, 0, -1, 0);
        due("in week 399", Checks.law(y, "e:a>1"), 0);
        due("begins", y.law(0, 1), 400);
        due("force in week 400", y.force(2, 400), 0);
        y.weeks(1);
        due("in week 400", Checks.law(y, "e:a>2"), 1);
        due("begins", y.law(1, 1), 401);
        due("force in week 400", y.force(2, 400), 0);
        due("repeal", y.repeal(0), 1);
        due("from", y.law(0, 5), 401);
        due("force in week 400", y.force(2, 400), 0);
    }

    private static void inForce() {
        Checks.says("the one that begins last, of like ones the greater number");
        IslandOffice x = Checks.settled(1);
        x.person(-1500, 0, -1, 0);
        Checks.law(x, "e:a>1");
        Checks.law(x, "e:a>2");
        Checks.law(x, "l:a>2");
        due("of like ones", x.force(2, 1), 1);
        due("another subject", x.force(3, 1), 2);
        x.weeks(1);
        Checks.law(x, "e:a>3");
        due("begins last", x.force(2, 2), 3);
        due("begins later", x.force(2, 1), 1);
        Checks.says("of those that aren't VOID");
        x.found(3, 0);
        due("VOID", x.force(2, 2), 1);
        x.found(1, 0);
        due("VOID", x.force(2, 2), 0);
        due("VOID in weeks that went by, too", x.force(2, 1), 0);
        x.found(0, 0);
        due("all VOID", x.force(2, 2), -2);
        due("subject -1", x.force(-1, 2), -1);
        due("subject 4", x.force(4, 2), -1);
    }

    private static void repealed() {
        Checks.says("aren't repealed by then; A LAW is repealed from the next WEEK on");
        IslandOffice x = Checks.settled(1);
        x.person(-1500, 0, -1, 0);
        Checks.law(x, "e:a>1");
        due("repealed before it begins", x.repeal(0), 1);
        due("from", x.law(0, 5), 1);
        due("never in force", x.force(2, 0), -2);
        due("never in force", x.force(2, 1), -2);
        Checks.law(x, "e:a>1");
        Checks.law(x, "e:a>1&a<1");
        x.weeks(4);
        due("repealed", x.repeal(2), 1);
        due("from", x.law(2, 5), 5);
        due("in week 1", x.force(2, 1), 2);
        due("in week 4", x.force(2, 4), 2);
        due("in week 5", x.force(2, 5), 1);
        due("in week 400", x.force(2, 400), 1);
        due("in THE WEEK", x.may(0, 2), 0);
        x.weeks(1);
        due("in the next", x.may(0, 2), 1);
        due("never repealed", x.law(1, 5), -2);
    }

    private static void withoutLaw() {
        Checks.says("Without one: v: AGE 18 and more; p: all; e: nobody; l: all");
        IslandOffice x = new IslandOffice();
        int[] births = {-18 * YEAR + 1, -18 * YEAR, -100, -4000};
        for (int i = 0; i < 4; i++) {
            x.person(births[i], 0, -1, 1);
            x.guest(births[i], 0, 1, 400);
        }
        int[] votes = {0, 1, 0, 1};
        for (int p = 0; p < 8; p++) {
            due("v of " + p, x.may(p, 0), votes[p / 2]);
            due("p of " + p, x.may(p, 1), 1);
            due("e of " + p, x.may(p, 2), 0);
            due("l of " + p, x.may(p, 3), 1);
        }
        due("VOTERS", x.count(12), 2);
        x.weeks(1);
        due("18 now", x.may(0, 0), 1);
        due("VOTERS", x.count(12), 3);
    }

    private static void voters() {
        Checks.says("VOTERS are those here (no GUESTS) for whom v's LAW IN FORCE holds (in THE WEEK)");
        IslandOffice x = Checks.someAway();
        due("those away aren't", x.count(12), 1);
        x.back(0);
        x.back(1);
        due("a child isn't", x.count(12), 2);
        x.guest(-1500, 0, 0, 400);
        due("a guest isn't", x.count(12), 2);
        Checks.law(x, "v:a<41");
        due("not in THE WEEK", x.count(12), 2);
        x.store(0, 99);
        x.weeks(1);
        due("by the law 0 and the child", x.count(12), 2);
        due("not the old one", x.may(3, 0), 0);
        due("the guest may", x.may(4, 0), 1);
        x.back(2);
        due("who is back", x.count(12), 3);
        x.death(1);
        due("not who is gone", x.count(12), 2);
        Checks.text(x, 0, "v:a>1");
        due("n is 3 of 2", x.vote(0, 3), -1);
        due("n is 2 of 2", x.vote(0, 2), 1);
        due("its VOTERS", x.law(1, 3), 2);
    }

    private static IslandOffice withVoters(int n) {
        IslandOffice x = new IslandOffice();
        for (int p = 0; p < n; p++) {
            x.person(-1500, p % 12, -1, 0);
        }
        return x;
    }

    private static void majorities() {
        Checks.says("A vote of n: MADE, if 2 n is above how many VOTERS there are; n 0 .. VOTERS");
        for (int voters = 0; voters <= 7; voters++) {
            for (int n = -1; n <= voters + 1; n++) {
                IslandOffice x = withVoters(voters);
                Checks.text(x, 0, "e:a>1");
                int want = n < 0 || n > voters ? -1 : 2 * n > voters ? 0 : -3;
                due(n + " of " + voters, x.vote(0, n), want);
                due("laws", x.count(4), want == 0 ? 1 : 0);
                if (want == 0) {
                    due("votes", x.law(0, 2), n);
                    due("voters", x.law(0, 3), voters);
                }
            }
        }
        IslandOffice x = withVoters(40);
        Checks.text(x, 0, "e:a>1");
        due("20 of 40", x.vote(0, 20), -3);
        due("21 of 40", x.vote(0, 21), 0);
        due("40 of 40", x.vote(0, 40), 1);
        due("41 of 40", x.vote(0, 41), -1);
        due("wild", x.vote(0, Checks.HIGH), -1);
        due("wild", x.vote(0, Checks.LOW), -1);
    }

    private static IslandOffice withVotersInOneHouse(int n) {
        IslandOffice x = Checks.settled(1);
        for (int p = 0; p < n; p++) {
            x.person(-1500, 0, -1, 0);
        }
        return x;
    }

    private static void voteRefusals() {
        Checks.says("-1 (n not 0 .. VOTERS); -11, -12, -100 less a FAULT, -2 (12 LAWS), -3, in this order");
        IslandOffice x = withVoters(2);
        due("shelf -1", x.vote(-1, 1), -1);
        due("shelf 8", x.vote(8, 1), -1);
        due("nothing, n 3", x.vote(0, 3), -1);
        due("nothing, n 0", x.vote(0, 0), -11);
        x.row(0, 1, 4);
        due("shorts, n 3", x.vote(0, 3), -1);
        due("shorts, n 0", x.vote(0, 0), -12);
        Checks.text(x, 0, "v:a");
        due("a fault, n 3", x.vote(0, 3), -1);
        due("a fault, n 0", x.vote(0, 0), -103);
        Checks.text(x, 0, "");
        due("fault 0", x.vote(0, 2), -100);
        Checks.text(x, 0, "v:" + Checks.times("!", 118));
        due("fault 120", x.vote(0, 2), -220);
        Checks.text(x, 0, "v:a>1");
        due("n 0", x.vote(0, 0), -3);
        due("n 1", x.vote(0, 1), -3);
        due("n 2", x.vote(0, 2), 0);
        for (int law = 1; law < 12; law++) {
            x.vote(0, 2);
        }
        due("12 laws, n 3", x.vote(0, 3), -1);
        due("12 laws, n 0", x.vote(0, 0), -2);
        due("12 laws, n 2", x.vote(0, 2), -2);
        due("12 laws, nothing", x.vote(1, 0), -11);
        x.keep(1, 1, 0);
        due("12 laws, a person", x.vote(1, 0), -12);
        Checks.text(x, 0, "v:b");
        due("12 laws, a fault", x.vote(0, 0), -102);
    }

    private static void foundShort() {
        Checks.says("found: n its votes then; -1 (n not 0 .. its VOTERS); 0, if 2 n is above its VOTERS; -3: it is VOID");
        for (int voters = 1; voters <= 6; voters++) {
            for (int n = -1; n <= voters + 1; n++) {
                IslandOffice x = withVoters(voters);
                Checks.law(x, "e:a>1");
                x.death(0);
                boolean in = n >= 0 && n <= voters;
                boolean enough = 2 * n > voters;
                due(n + " of " + voters, x.found(0, n), !in ? -1 : enough ? 0 : 1);
                due("votes", x.law(0, 2), in ? n : voters);
                due("its VOTERS", x.law(0, 3), voters);
                due("VOID", x.law(0, 4), in && !enough ? 1 : 0);
            }
        }
        IslandOffice x = withVoters(3);
        due("no law", x.found(0, 1), -1);
        Checks.law(x, "e:a>1");
        due("-1", x.found(-1, 1), -1);
        due("law 1", x.found(1, 1), -1);
        due("enough", x.found(0, 2), 0);
        due("enough once more", x.found(0, 3), 0);
        due("short", x.found(0, 1), 1);
        due("VOID", x.found(0, 3), -3);
        due("VOID, short", x.found(0, 0), -3);
        due("VOID, out of range", x.found(0, 4), -1);
        due("votes stay", x.law(0, 2), 1);
        IslandOffice y = withVoters(2);
        Checks.law(y, "e:a>1");
        y.repeal(0);
        due("of a repealed one", y.found(0, 1), 1);
        due("repealed still", y.law(0, 5), 1);
    }

    private static void hanging() {
        Checks.says("if it is of v, all LAWS that were MADE while it was IN FORCE of v are VOID, too, and so on for those");
        IslandOffice x = withVotersInOneHouse(3);
        due("v 0 without one", Checks.law(x, "v:a>0"), 0);
        due("e 1 in its first week's week before", Checks.law(x, "e:a>0"), 1);
        x.weeks(1);
        due("e 2 under 0, its first week", Checks.law(x, "e:a>1"), 2);
        due("v 3 under 0", Checks.law(x, "v:a>1"), 3);
        due("p 4 under 0, as 3 isn't in force yet", Checks.law(x, "p:a>1"), 4);
        x.weeks(1);
        due("l 5 under 3", Checks.law(x, "l:a>1"), 5);
        due("v 6 under 3", Checks.law(x, "v:a>2"), 6);
        x.weeks(1);
        due("e 7 under 6", Checks.law(x, "e:a>3"), 7);
        x.image();
        due("3, 5, 6, 7", x.found(3, 0), 4);
        int[] isVoid = {0, 0, 0, 1, 0, 1, 1, 1};
        for (int law = 0; law < 8; law++) {
            due("VOID " + law, x.law(law, 4), isVoid[law]);
        }
        Checks.says("how many LAWS are VOID by that now: not those that were VOID before");
        due("0, 2, 4", x.found(0, 0), 3);
        due("1 stands", x.law(1, 4), 0);
        x.restore();
        due("5 alone", x.found(5, 0), 1);
        due("6, 7", x.found(6, 1), 2);
        due("0, 2, 3, 4", x.found(0, 1), 4);
        x.restore();
        due("0, 2 .. 7", x.found(0, 0), 7);
        due("1 alone", x.found(1, 0), 1);
    }

    private static void notHanging() {
        Checks.says("MADE while it was IN FORCE of v (in the WEEK of the vote)");
        IslandOffice x = withVotersInOneHouse(3);
        Checks.law(x, "v:a>0");
        x.weeks(1);
        x.repeal(0);
        due("e 1 in the week of the repeal", Checks.law(x, "e:a>1"), 1);
        x.weeks(1);
        due("e 2 a week later", Checks.law(x, "e:a>2"), 2);
        due("0, 1", x.found(0, 0), 2);
        due("2 stands", x.law(2, 4), 0);
        IslandOffice y = withVotersInOneHouse(3);
        Checks.law(y, "v:a>0");
        Checks.law(y, "v:a>1");
        y.weeks(1);
        due("e 2 under 1", Checks.law(y, "e:a>1"), 2);
        due("0 was never in force", y.found(0, 0), 1);
        due("1, 2", y.found(1, 0), 2);
        due("e 3 without one", Checks.law(y, "e:a>2"), 3);
        due("3 stands", y.found(3, 3), 0);
        IslandOffice z = withVotersInOneHouse(3);
        Checks.law(z, "v:a>0");
        z.weeks(1);
        Checks.law(z, "v:a>1");
        z.weeks(1);
        due("1 is VOID", z.found(1, 0), 1);
        due("e 2 under 0 again", Checks.law(z, "e:a>1"), 2);
        due("0, 2", z.found(0, 0), 2);
        Checks.says("if it is of v");
        String subjects = "pel";
        for (int s = 0; s < 3; s++) {
            IslandOffice e = withVotersInOneHouse(3);
            Checks.law(e, subjects.charAt(s) + ":a>0");
            e.weeks(1);
            Checks.law(e, subjects.charAt(s) + ":a>1");
            due("only itself", e.found(0, 0), 1);
            due("the other stands", e.law(1, 4), 0);
        }
    }

    private static void repealRefusals() {
        Checks.says("A LAW is repealed from the next WEEK on: 1. -1; -3: it is VOID, or was repealed");
        IslandOffice x = withVoters(3);
        due("no law", x.repeal(0), -1);
        Checks.law(x, "e:a>1");
        Checks.law(x, "e:a>1");
        due("-1", x.repeal(-1), -1);
        due("law 2", x.repeal(2), -1);
        due("repealed", x.repeal(0), 1);
        due("was repealed", x.repeal(0), -3);
        x.found(1, 0);
        due("VOID", x.repeal(1), -3);
        due("VOID isn't repealed", x.law(1, 5), -2);
        x.weeks(2);
        due("was repealed", x.repeal(0), -3);
        due("from week 1", x.law(0, 5), 1);
    }

    private static void mayRefusals() {
        Checks.says("may: -1; -3: not here");
        IslandOffice x = Checks.someAway();
        due("person -1", x.may(-1, 0), -1);
        due("person 4", x.may(4, 0), -1);
        due("subject -1", x.may(3, -1), -1);
        due("subject 4", x.may(3, 4), -1);
        due("subject 3", x.may(3, 3), 1);
        due("away", x.may(0, 0), -3);
        due("away, subject 4", x.may(0, 4), -1);
        x.death(3);
        due("gone", x.may(3, 0), -3);
        x.back(0);
        due("back", x.may(0, 0), 1);
    }

    private static void parts() {
        Checks.says("Of a LAW: 0 .. 5. -1");
        IslandOffice x = withVoters(3);
        due("no law", x.law(0, 0), -1);
        x.weeks(2);
        Checks.text(x, 0, "l:a>1");
        due("made", x.vote(0, 2), 0);
        int[] want = {3, 3, 2, 3, 0, -2};
        for (int what = 0; what < 6; what++) {
            due("law(0, " + what + ")", x.law(0, what), want[what]);
        }
        due("what -1", x.law(0, -1), -1);
        due("what 6", x.law(0, 6), -1);
        due("law -1", x.law(-1, 0), -1);
        due("law 1", x.law(1, 0), -1);
        x.repeal(0);
        due("the WEEK from which it is repealed", x.law(0, 5), 3);
        x.found(0, 0);
        due("VOID", x.law(0, 4), 1);
        due("repealed", x.law(0, 5), 3);
        due("in force", x.force(3, 3), -2);
    }
}
