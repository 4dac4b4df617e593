/** The boundary cases of promises 10 to 14 and 35 and of the terms' part 2: a sentence, a test. */
public final class PeopleEdgesTest {
    private static final int LEAST = Integer.MIN_VALUE;
    private static final int MOST = Integer.MAX_VALUE;
    private static final String EACH_KIN = "for spouse: grey 1 days\nfor husband: grey 1 days\nfor wife: grey 1 days\n"
        + "for child: grey 1 days\nfor son: grey 1 days\nfor daughter: grey 1 days\nfor parent: grey 1 days\n"
        + "for father: grey 1 days\nfor mother: grey 1 days\nfor sibling: grey 1 days\nfor brother: grey 1 days\n"
        + "for sister: grey 1 days\n";

    public static void main(String[] args) {
        sexesAndSizes();
        parentsThatAreNone();
        bornOnDays();
        bornAheadOfParents();
        fortyPeople();
        deathsOfWhom();
        deathsOnDays();
        deathsOnce();
        marriagesOfWhom();
        marriagesOnDays();
        fortyMarriages();
        depthsOfOrders();
        lengthsOfOrders();
        daysOfOrders();
        tenOrders();
        eachKin();
        siblings();
        spousesByDays();
        moreSpouses();
        leftOutEachTime();
        fourWords();
        kinOfTheLatestLaw();
        kinThatIsNone();
        fortyAmongKin();
        told();
        Check.done();
    }

    // ---- Promise 10: person ----

    /** "who is SEX * 10 + SIZE": SEX 0 or 1, SIZE 0 .. 4 */
    private static void sexesAndSizes() {
        MourningHouse h = new MourningHouse();
        int number = 0;
        for (int who = -12; who <= 130; who++) {
            boolean due = who >= 0 && who <= 4 || who >= 10 && who <= 14;
            Check.due("person(" + who + ")", h.person(who, -1, -1, 0), due ? number : -1);
            if (due) {
                Check.due("sex by " + who, h.told(number, 0), who / 10);
                Check.due("size by " + who, h.told(number, 1), who % 10);
                number++;
            }
            Check.due("people", h.count(1), number);
        }
        for (int who : new int[] {LEAST, LEAST + 1, MOST, MOST - 1, 1000, 10000}) {
            Check.due("person(" + who + ")", h.person(who, -1, -1, 0), -1);
        }
    }

    /** "a man and a woman with lesser numbers, or nobody known"; "NONE if ... FATHER or MOTHER are none such" */
    private static void parentsThatAreNone() {
        MourningHouse h = new MourningHouse();
        Check.due("oneself as father", h.person(10, 0, -1, 0), -1);
        Check.due("oneself as mother", h.person(0, -1, 0, 0), -1);
        Check.due("a man", h.person(10, -1, -1, 0), 0);
        Check.due("a woman", h.person(0, -1, -1, 0), 1);
        for (int none : new int[] {2, 3, 39, 40, 41, -2, -3, LEAST, LEAST + 1, MOST}) {
            Check.due("father " + none, h.person(0, none, -1, 0), -1);
            Check.due("mother " + none, h.person(0, -1, none, 0), -1);
            Check.due("father " + none, h.person(0, none, 1, 0), -1);
            Check.due("mother " + none, h.person(0, 0, none, 0), -1);
        }
        Check.due("a woman as father", h.person(0, 1, -1, 0), -1);
        Check.due("a man as mother", h.person(0, -1, 0, 0), -1);
        Check.due("both the other way", h.person(0, 1, 0, 0), -1);
        Check.due("people", h.count(1), 2);
        Check.due("both", h.person(0, 0, 1, 0), 2);
        Check.due("nobody known", h.person(0, -1, -1, 0), 3);
        Check.due("a father alone", h.person(10, 0, -1, 0), 4);
        Check.due("a mother alone", h.person(10, -1, 1, 0), 5);
        Check.due("the latest ones", h.person(10, 5, 3, 0), 6);
    }

    /** "the DAY on which they were BORN (not behind NOW)" */
    private static void bornOnDays() {
        MourningHouse h = new MourningHouse();
        for (int day : new int[] {1, 2, 73047, 73048, MOST, -36525, -36526, LEAST}) {
            Check.due("born on " + day, h.person(0, -1, -1, day), -1);
        }
        Check.due("on the first day", h.person(0, -1, -1, -36524), 0);
        Check.due("now", h.person(0, -1, -1, 0), 1);
        Check.due("go", h.go(7), 7);
        Check.due("tomorrow", h.person(0, -1, -1, 8), -1);
        Check.due("now", h.person(0, -1, -1, 7), 2);
        Check.due("its birth", h.told(2, 4), 7);
    }

    /** "or is ahead of either's" */
    private static void bornAheadOfParents() {
        MourningHouse h = new MourningHouse();
        h.person(10, -1, -1, -20);
        h.person(0, -1, -1, -10);
        int[][] asked = {{0, 1, -9, 1}, {0, 1, -10, 1}, {0, 1, -11, 0}, {0, 1, -20, 0}, {0, 1, -21, 0},
            {0, -1, -19, 1}, {0, -1, -20, 1}, {0, -1, -21, 0}, {-1, 1, -10, 1}, {-1, 1, -11, 0}, {-1, -1, -21, 1}};
        int number = 2;
        for (int[] a : asked) {
            Check.due("born on " + a[2], h.person(4, a[0], a[1], a[2]), a[3] == 1 ? number : -1);
            number += a[3];
        }
        MourningHouse other = new MourningHouse();
        other.person(10, -1, -1, -10);
        other.person(0, -1, -1, -20);
        Check.due("ahead of the father's alone", other.person(0, 0, 1, -11), -1);
        Check.due("ahead of neither's", other.person(0, 0, 1, -10), 2);
        other.death(0, -10);
        Check.due("behind the father's death", other.person(0, 0, 1, -5), 3);
    }

    /** "at most 40"; "or 40 came" */
    private static void fortyPeople() {
        MourningHouse h = new MourningHouse();
        for (int i = 0; i < 40; i++) {
            Check.due("people", h.count(1), i);
            Check.due("person", h.person(i % 2 * 10 + i % 5, -1, -1, -i), i);
        }
        Check.due("a 41st", h.person(0, -1, -1, 0), -1);
        Check.due("people", h.count(1), 40);
        Check.due("the 40th's birth", h.told(39, 4), -39);
        Check.due("no 41st", h.told(40, 4), Check.NO_ANSWER);
        Check.yes("the 40th dies", h.death(39, 0));
        Check.no("no 41st dies", h.death(40, 0));
        Check.due("a death makes no room", h.person(0, -1, -1, 0), -1);
        Check.due("the 40th weds", h.wed(39, 38, 0), 0);
    }

    // ---- Promise 11: death ----

    private static void deathsOfWhom() {
        MourningHouse h = new MourningHouse();
        Check.no("nobody", h.death(0, 0));
        h.person(0, -1, -1, 0);
        for (int none : new int[] {-1, 1, 2, 40, LEAST, MOST}) {
            Check.no("death(" + none + ")", h.death(none, 0));
        }
        Check.yes("the only one", h.death(0, 0));
    }

    /** "a DAY (not ahead of the birth, not behind NOW)" */
    private static void deathsOnDays() {
        int[][] asked = {{-11, 0}, {-10, 1}, {-9, 1}, {4, 1}, {5, 1}, {6, 0}, {-36525, 0}, {-36524, 0}, {73047, 0},
            {73048, 0}, {LEAST, 0}, {MOST, 0}};
        for (int[] a : asked) {
            MourningHouse h = new MourningHouse();
            h.person(0, -1, -1, -10);
            h.go(5);
            Check.due("death on " + a[0], h.death(0, a[0]) ? 1 : 0, a[1]);
            Check.due("its day", h.told(0, 5), a[1] == 1 ? a[0] : Check.NO_ANSWER);
            Check.due("known on", h.told(0, 6), a[1] == 1 ? 5 : Check.NO_ANSWER);
        }
        MourningHouse h = new MourningHouse();
        h.person(0, -1, -1, -36524);
        Check.yes("on the first day", h.death(0, -36524));
        Check.due("its day", h.told(0, 5), -36524);
    }

    /** "A DEATH is told once of each" */
    private static void deathsOnce() {
        MourningHouse h = new MourningHouse();
        h.person(0, -1, -1, -10);
        h.person(0, -1, -1, -10);
        Check.no("not yet", h.death(0, 1));
        Check.yes("a refused one isn't told", h.death(0, -3));
        h.go(4);
        Check.no("the same day", h.death(0, -3));
        Check.no("another one", h.death(0, 2));
        Check.due("its day", h.told(0, 5), -3);
        Check.due("known on", h.told(0, 6), 0);
        Check.yes("another one's", h.death(1, -3));
        Check.due("known on", h.told(1, 6), 4);
    }

    // ---- Promise 12: wed ----

    /** "two PEOPLE of unlike SEX" */
    private static void marriagesOfWhom() {
        MourningHouse h = new MourningHouse();
        Check.due("nobody", h.wed(0, 1, 0), -1);
        h.person(0, -1, -1, 0);
        h.person(10, -1, -1, 0);
        h.person(0, -1, -1, 0);
        h.person(10, -1, -1, 0);
        for (int none : new int[] {-1, -2, 4, 40, LEAST, MOST}) {
            Check.due("wed(0, " + none + ")", h.wed(0, none, 0), -1);
            Check.due("wed(1, " + none + ")", h.wed(1, none, 0), -1);
            Check.due("wed(" + none + ", 0)", h.wed(none, 0, 0), -1);
            Check.due("wed(" + none + ", 1)", h.wed(none, 1, 0), -1);
        }
        Check.due("women", h.wed(0, 2, 0), -1);
        Check.due("men", h.wed(1, 3, 0), -1);
        Check.due("oneself", h.wed(0, 0, 0), -1);
        Check.due("himself", h.wed(1, 1, 0), -1);
        Check.due("marriages", h.count(3), 0);
        Check.due("a woman and a man", h.wed(0, 1, 0), 0);
        Check.due("a man and a woman", h.wed(1, 0, 0), 1);
        Check.due("the last ones", h.wed(3, 2, 0), 2);
    }

    /** "a DAY (not ahead of either's birth, not behind NOW)" */
    private static void marriagesOnDays() {
        for (int turn = 0; turn < 2; turn++) {
            int[][] asked = {{-21, 0}, {-20, 0}, {-11, 0}, {-10, 1}, {-9, 1}, {5, 1}, {6, 0}, {-36525, 0}, {73047, 0},
                {73048, 0}, {LEAST, 0}, {MOST, 0}};
            for (int[] a : asked) {
                MourningHouse h = new MourningHouse();
                h.person(0, -1, -1, turn == 0 ? -10 : -20);
                h.person(10, -1, -1, turn == 0 ? -20 : -10);
                h.go(5);
                Check.due("wed on " + a[0], h.wed(0, 1, a[0]), a[1] - 1);
                Check.due("wed on " + a[0], h.wed(1, 0, a[0]), a[1] == 1 ? 1 : -1);
                Check.due("marriages", h.count(3), a[1] * 2);
            }
        }
        MourningHouse h = new MourningHouse();
        h.person(0, -1, -1, -36524);
        h.person(10, -1, -1, -36524);
        Check.due("on the first day", h.wed(0, 1, -36524), 0);
    }

    /** "MARRIAGES (at most 40)"; "or 40 came" */
    private static void fortyMarriages() {
        MourningHouse h = Check.under("for wife: grey 9 days", 1);
        h.person(10, -1, -1, -10);
        h.person(0, -1, -1, -10);
        h.person(0, -1, -1, -10);
        for (int i = 0; i < 39; i++) {
            Check.due("wed", h.wed(0, 1, 0), i);
        }
        Check.no("not yet", h.kin(0, 0, 2, 0));
        Check.due("the 40th", h.wed(0, 2, 0), 39);
        Check.yes("by the 40th", h.kin(0, 0, 2, 0));
        Check.due("a 41st", h.wed(0, 2, 0), -1);
        Check.due("marriages", h.count(3), 40);
    }

    // ---- Promise 13: court ----

    private static void depthsOfOrders() {
        MourningHouse h = new MourningHouse();
        h.person(0, -1, -1, 0);
        int number = 0;
        for (int depth = -2; depth <= 7; depth++) {
            boolean due = depth >= 1 && depth <= 4;
            Check.due("court of " + depth, h.court(depth, 1, depth), due ? number : -1);
            number += due ? 1 : 0;
            Check.due("orders", h.count(4), number);
        }
        for (int depth = 1; depth <= 4; depth++) {
            Check.due("depth by order", h.depth(0, depth, 0), depth);
        }
        for (int bad : new int[] {LEAST, MOST}) {
            Check.due("court of " + bad, h.court(0, 1, bad), -1);
        }
    }

    /** "DAYS are not 1 .. 400"; "a DEPTH for so many DAYS from a DAY on" */
    private static void lengthsOfOrders() {
        for (int days : new int[] {1, 2, 399, 400}) {
            MourningHouse h = new MourningHouse();
            h.person(0, -1, -1, -9);
            Check.due("court for " + days, h.court(3, days, 2), 0);
            Check.due("the day ahead", h.depth(0, 2, 0), 0);
            Check.due("the first day", h.depth(0, 3, 0), 2);
            Check.due("the last day", h.depth(0, 2 + days, 0), 2);
            Check.due("the day behind", h.depth(0, 3 + days, 0), 0);
        }
        MourningHouse h = new MourningHouse();
        for (int days : new int[] {0, -1, 401, 402, 1000, LEAST, MOST}) {
            Check.due("court for " + days, h.court(3, days, 2), -1);
        }
        Check.due("orders", h.count(4), 0);
    }

    /** "NONE if ... the DAY is none": one behind NOW may be, as one ahead of it. */
    private static void daysOfOrders() {
        MourningHouse h = new MourningHouse();
        h.person(0, -1, -1, -36524);
        for (int day : new int[] {-36525, 73048, LEAST, MOST}) {
            Check.due("court on " + day, h.court(day, 1, 1), -1);
        }
        Check.due("on the first day", h.court(-36524, 1, 1), 0);
        Check.due("on the last day", h.court(73047, 400, 2), 1);
        Check.due("the first day", h.depth(0, -36524, 0), 1);
        Check.due("the second day", h.depth(0, -36523, 0), 0);
        Check.due("the last but one", h.depth(0, 73046, 0), 0);
        Check.due("the last day", h.depth(0, 73047, 0), 2);
    }

    /** "at most 10"; "or 10 came" */
    private static void tenOrders() {
        MourningHouse h = new MourningHouse();
        h.person(0, -1, -1, -9);
        for (int i = 0; i < 10; i++) {
            Check.due("orders", h.count(4), i);
            Check.due("court", h.court(i, 1, 1 + i % 4), i);
        }
        Check.due("an 11th", h.court(20, 1, 4), -1);
        Check.due("orders", h.count(4), 10);
        for (int i = 0; i < 10; i++) {
            Check.due("depth by order " + i, h.depth(0, i, 0), 1 + i % 4);
        }
        Check.due("by no 11th", h.depth(0, 20, 0), 0);
    }

    // ---- Promise 14: kin, and the kin of part 2 ----

    /** As many bits as the twelve rules, the first one the highest. */
    private static void kinIs(MourningHouse h, int a, int d, int day, String bits) {
        for (int rule = 0; rule < 12; rule++) {
            Check.due("kin(" + rule + ", " + a + ", " + d + ", " + day + ")", h.kin(rule, a, d, day) ? 1 : 0, bits.charAt(rule) - '0');
        }
    }

    private static void eachKin() {
        MourningHouse h = Check.under(EACH_KIN, 12);
        h.person(10, -1, -1, -9000);
        h.person(0, -1, -1, -9000);
        h.person(10, 0, 1, -5000);
        h.person(0, 0, 1, -5000);
        h.wed(1, 0, 0);
        String[][] want = {
            {"000000000000", "101000000000", "000110000000", "000101000000"},
            {"110000000000", "000000000000", "000110000000", "000101000000"},
            {"000000110000", "000000101000", "000000000000", "000000000101"},
            {"000000110000", "000000101000", "000000000110", "000000000000"}};
        for (int a = 0; a < 4; a++) {
            for (int d = 0; d < 4; d++) {
                kinIs(h, a, d, 0, want[a][d]);
            }
        }
        // The first one told may be a woman.
        MourningHouse mother = Check.under(EACH_KIN, 12);
        mother.person(0, -1, -1, -9000);
        mother.person(10, -1, -1, -9000);
        mother.person(0, 1, 0, -5000);
        mother.wed(0, 1, 0);
        kinIs(mother, 1, 0, 0, "101000000000");
        kinIs(mother, 2, 0, 0, "000000101000");
        kinIs(mother, 2, 1, 0, "000000110000");
        kinIs(mother, 0, 2, 0, "000101000000");
    }

    /** "SIBLING (another one with the same FATHER, or the same MOTHER)" */
    private static void siblings() {
        MourningHouse h = Check.under(EACH_KIN, 12);
        h.person(10, -1, -1, -9000); // 0, 1: men
        h.person(10, -1, -1, -9000);
        h.person(0, -1, -1, -9000);  // 2, 3: women
        h.person(0, -1, -1, -9000);
        h.person(0, 0, 2, -10);      // 4
        h.person(10, 0, 3, -10);     // 5: by the father
        h.person(10, 1, 2, -10);     // 6: by the mother
        h.person(0, 1, 3, -10);      // 7: by neither
        h.person(0, 0, -1, -10);     // 8: by the father, no mother known
        h.person(10, -1, 2, -10);    // 9: by the mother, no father known
        h.person(10, 0, 2, -10);     // 10: by both
        String none = "000000000000";
        String brother = "000000000110";
        String sister = "000000000101";
        String[] want = {"000000110000", none, "000000101000", none, none, brother, brother, none, sister, brother, brother};
        for (int d = 0; d < 11; d++) {
            kinIs(h, 4, d, 0, want[d]);
        }
        kinIs(h, 8, 9, 0, none);
        kinIs(h, 9, 8, 0, none);
        kinIs(h, 0, 1, 0, none);
        kinIs(h, 8, 5, 0, brother);
        kinIs(h, 9, 6, 0, brother);
        kinIs(h, 9, 4, 0, sister);
    }

    /** "SPOUSE (by any MARRIAGE on or ahead of the DAY asked for)" */
    private static void spousesByDays() {
        MourningHouse h = Check.under(EACH_KIN, 12);
        h.person(10, -1, -1, -9000);
        h.person(0, -1, -1, -9000);
        h.go(9);
        h.wed(0, 1, 5);
        for (int day : new int[] {-36524, -1, 0, 3, 4}) {
            kinIs(h, 0, 1, day, "000000000000");
        }
        for (int day : new int[] {5, 6, 9, 10, 73047}) {
            kinIs(h, 0, 1, day, "101000000000");
            kinIs(h, 1, 0, day, "110000000000");
        }
        h.death(1, 6);
        kinIs(h, 0, 1, 7, "101000000000");
        h.wed(1, 0, 2);
        kinIs(h, 0, 1, 1, "000000000000");
        kinIs(h, 0, 1, 2, "101000000000");
    }

    private static void moreSpouses() {
        MourningHouse h = Check.under("for spouse: grey 1 days\nfor child of spouse: grey 1 days", 2);
        h.person(10, -1, -1, -9000);
        for (int i = 1; i <= 3; i++) {
            h.person(0, -1, -1, -9000);
            h.person(10, -1, i * 2 - 1, -10);
        }
        h.wed(0, 1, 0);
        h.wed(3, 0, 0);
        h.wed(0, 5, 0);
        for (int i = 1; i <= 6; i++) {
            Check.due("spouse " + i, h.kin(0, 0, i, 0) ? 1 : 0, i % 2);
            Check.due("child of spouse " + i, h.kin(1, 0, i, 0) ? 1 : 0, 1 - i % 2);
        }
        h.wed(5, 2, 0);
        Check.yes("a wife's first husband", h.kin(0, 5, 0, 0));
        Check.yes("a wife's second husband", h.kin(0, 5, 2, 0));
    }

    /** "the one who mourns is left out each time" */
    private static void leftOutEachTime() {
        MourningHouse h = Check.under("for child of parent: grey 1 days\nfor spouse of child of parent: grey 1 days\n"
            + "for parent of child: grey 1 days\nfor spouse of spouse: grey 1 days\nfor sibling of child of parent: grey 1 days\n"
            + "for child of spouse: grey 1 days", 6);
        h.person(10, -1, -1, -9000); // 0
        h.person(10, 0, -1, -5000);  // 1
        h.person(0, -1, -1, -5000);  // 2 his wife
        h.wed(1, 2, -10);
        h.person(0, 1, 2, -10);      // 3 their child
        for (int rule = 0; rule < 6; rule++) {
            Check.no("oneself by rule " + rule, h.kin(rule, 1, 1, 0));
        }
        Check.no("one's own wife, by oneself alone", h.kin(1, 1, 2, 0));
        Check.yes("the other parent of a child", h.kin(2, 1, 2, 0));
        Check.yes("a spouse's child", h.kin(5, 1, 3, 0));
        h.person(0, 0, -1, -5000);   // 4 a sister
        Check.yes("a parent's other child", h.kin(0, 1, 4, 0));
        Check.yes("a brother's wife", h.kin(1, 4, 2, 0));
        Check.no("a sibling's sibling is oneself", h.kin(4, 1, 4, 0));
        h.person(10, 0, -1, -5000);  // 5 a brother
        Check.yes("a sibling's other sibling", h.kin(4, 1, 4, 0));
        Check.no("a spouse's spouse is oneself", h.kin(3, 1, 1, 0));
        h.wed(5, 2, 0);
        Check.yes("a wife's other husband", h.kin(3, 1, 5, 0));
    }

    /** Four W: each word's turn, from the one who mourns on. */
    private static void fourWords() {
        MourningHouse h = Check.under("for husband of daughter of brother of mother: grey 1 days\n"
            + "for mother of brother of daughter of husband: grey 1 days", 2);
        h.person(10, -1, -1, -9000); // 0 the grandfather
        h.person(0, 0, -1, -7000);   // 1 the mother
        h.person(10, 0, -1, -7000);  // 2 her brother
        h.person(0, -1, 1, -5000);   // 3 who mourns
        h.person(0, 2, -1, -5000);   // 4 the cousin
        h.person(10, -1, -1, -5000); // 5 the cousin's husband
        Check.no("not yet", h.kin(0, 3, 5, 0));
        h.wed(4, 5, 0);
        for (int d = 0; d < 6; d++) {
            Check.due("kin of four words " + d, h.kin(0, 3, d, 0) ? 1 : 0, d == 5 ? 1 : 0);
            Check.no("the other way", h.kin(1, 3, d, 0));
        }
    }

    /** "by the W of a RULE (of the latest LAW)" */
    private static void kinOfTheLatestLaw() {
        MourningHouse h = new MourningHouse();
        h.person(10, -1, -1, -9000);
        h.person(0, 0, -1, -5000);
        Check.no("no law", h.kin(0, 1, 0, 0));
        Check.due("take", Check.take(h, "for son: grey 1 days\nfor father: grey 1 days"), 2);
        Check.yes("the second rule", h.kin(1, 1, 0, 0));
        Check.due("take", Check.take(h, "for father: grey 1 days"), 1);
        Check.yes("the first rule", h.kin(0, 1, 0, 0));
        Check.no("no second rule now", h.kin(1, 1, 0, 0));
        Check.due("a faulty text", Check.take(h, "for son"), -1);
        Check.yes("it is no law", h.kin(0, 1, 0, 0));
        Check.yes("whatever the day", h.kin(0, 1, 0, -36524));
        Check.due("take", Check.take(h, "# none"), 0);
        Check.no("a law without rules", h.kin(0, 1, 0, 0));
        Check.due("take", Check.take(h, "for son: grey 1 days\n".repeat(29) + "for father: grey 1 days"), 30);
        Check.no("the 29th rule", h.kin(28, 1, 0, 0));
        Check.yes("the 30th rule", h.kin(29, 1, 0, 0));
        Check.no("no 31st rule", h.kin(30, 1, 0, 0));
    }

    /** "false if there is none such" */
    private static void kinThatIsNone() {
        MourningHouse h = Check.under("for father: grey 1 days", 1);
        h.person(10, -1, -1, -9000);
        h.person(0, 0, -1, -5000);
        for (int none : new int[] {-1, 1, 2, 30, LEAST, MOST}) {
            Check.no("rule " + none, h.kin(none, 1, 0, 0));
        }
        for (int none : new int[] {-1, 2, 3, 40, LEAST, MOST}) {
            Check.no("mourner " + none, h.kin(0, none, 0, 0));
            Check.no("dead " + none, h.kin(0, 1, none, 0));
        }
        for (int none : new int[] {-36525, 73048, LEAST, MOST}) {
            Check.no("day " + none, h.kin(0, 1, 0, none));
        }
        Check.yes("the first day", h.kin(0, 1, 0, -36524));
        Check.yes("the last day", h.kin(0, 1, 0, 73047));
        Check.yes("neither is dead", h.kin(0, 1, 0, 0));
    }

    /** The 40 PEOPLE that there may be are all among those who are kin, by each way. */
    private static void fortyAmongKin() {
        MourningHouse h = Check.under("for sibling: grey 1 days\nfor child: grey 1 days\nfor wife of sibling: grey 1 days\n"
            + "for parent of spouse: grey 1 days", 4);
        h.person(10, -1, -1, -9000);
        for (int i = 1; i < 39; i++) {
            h.person(10, 0, -1, -5000);
        }
        h.person(0, -1, -1, -5000);
        h.wed(38, 39, 0);
        for (int i = 1; i < 39; i++) {
            Check.due("sibling", h.kin(0, 38, i, 0) ? 1 : 0, i < 38 ? 1 : 0);
            Check.due("sibling", h.kin(0, i, 38, 0) ? 1 : 0, i < 38 ? 1 : 0);
            Check.yes("child", h.kin(1, 0, i, 0));
            Check.due("wife of sibling", h.kin(2, i, 39, 0) ? 1 : 0, i < 38 ? 1 : 0);
        }
        Check.yes("parent of spouse", h.kin(3, 39, 0, 0));
    }

    // ---- Promise 35: told ----

    /** "-2147483648 for others, if there is none such, or it isn't told" */
    private static void told() {
        MourningHouse h = new MourningHouse();
        h.person(14, -1, -1, -30);
        h.person(3, -1, -1, -20);
        h.go(6);
        h.person(0, 0, 1, -10);
        for (int none : new int[] {-1, 3, 40, LEAST, MOST}) {
            for (int what = 0; what < 7; what++) {
                Check.due("told(" + none + ", " + what + ")", h.told(none, what), Check.NO_ANSWER);
            }
        }
        for (int other : new int[] {-1, 7, 8, LEAST, MOST}) {
            Check.due("told(2, " + other + ")", h.told(2, other), Check.NO_ANSWER);
        }
        Check.due("no death yet", h.told(2, 5), Check.NO_ANSWER);
        Check.due("none known", h.told(2, 6), Check.NO_ANSWER);
        h.go(2);
        Check.yes("death", h.death(2, 7));
        int[] want = {0, 0, 0, 1, -10, 7, 8};
        for (int what = 0; what < 7; what++) {
            Check.due("told(2, " + what + ")", h.told(2, what), want[what]);
        }
        h.person(11, -1, -1, -30);
        h.person(2, -1, -1, -30);
        h.person(4, 3, 4, -10);
        Check.due("another father", h.told(5, 2), 3);
        Check.due("another mother", h.told(5, 3), 4);
        h.person(0, 3, -1, -10);
        h.person(0, -1, 4, -10);
        Check.due("a father alone", h.told(6, 2), 3);
        Check.due("its mother isn't told", h.told(6, 3), Check.NO_ANSWER);
        Check.due("its father isn't told", h.told(7, 2), Check.NO_ANSWER);
        Check.due("a mother alone", h.told(7, 3), 4);
        Check.due("a man", h.told(0, 0), 1);
        Check.due("the greatest size", h.told(0, 1), 4);
        Check.due("another's death", h.told(0, 5), Check.NO_ANSWER);
    }
}
