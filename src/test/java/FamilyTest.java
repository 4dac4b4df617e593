/** Promises 10 to 14 and 35: people, deaths, marriages, the court's orders, kin, what is told. */
public final class FamilyTest {
    public static void main(String[] args) {
        people();
        fortyPeople();
        deaths();
        marriages();
        orders();
        kinByOneWord();
        kinByMoreWords();
        kinByDaysAndLaws();
        told();
        Check.done();
    }

    private static void people() {
        MourningHouse h = new MourningHouse();
        Check.due("woman", h.person(0, -1, -1, 0), 0);
        Check.due("man", h.person(14, -1, -1, -36524), 1);
        for (int who : new int[] {-1, 5, 9, 15, 20, 24, 10000, -10, Integer.MIN_VALUE, Integer.MAX_VALUE}) {
            Check.due("person(" + who + ")", h.person(who, -1, -1, 0), -1);
        }
        Check.due("not yet", h.person(0, -1, -1, 1), -1);
        Check.due("no such day", h.person(0, -1, -1, -36525), -1);
        Check.due("a mother as father", h.person(0, 0, -1, 0), -1);
        Check.due("a father as mother", h.person(0, -1, 1, 0), -1);
        Check.due("no such father", h.person(0, 2, -1, 0), -1);
        Check.due("no such mother", h.person(0, -1, 2, 0), -1);
        Check.due("no such father", h.person(0, -2, -1, 0), -1);
        Check.due("ahead of the mother", h.person(0, 1, 0, -1), -1);
        Check.due("people", h.count(1), 2);
        Check.due("on the mother's day", h.person(0, 1, 0, 0), 2);
        Check.due("man", h.person(10, -1, -1, -5), 3);
        Check.due("ahead of the father", h.person(0, 3, -1, -6), -1);
        Check.due("on the father's day", h.person(0, 3, -1, -5), 4);
        Check.due("go", h.go(10), 10);
        Check.due("today", h.person(0, -1, -1, 10), 5);
        Check.due("not yet", h.person(0, -1, -1, 11), -1);
    }

    private static void fortyPeople() {
        MourningHouse h = new MourningHouse();
        for (int i = 0; i < 40; i++) {
            Check.due("person", h.person(10, i - 1, -1, -100 + i), i);
        }
        Check.due("one more", h.person(10, -1, -1, 0), -1);
        Check.due("people", h.count(1), 40);
        Check.due("told", h.told(39, 2), 38);
    }

    private static void deaths() {
        MourningHouse h = new MourningHouse();
        Check.due("person", h.person(0, -1, -1, -10), 0);
        Check.no("ahead of the birth", h.death(0, -11));
        Check.no("not yet", h.death(0, 1));
        Check.no("no such one", h.death(1, 0));
        Check.no("no such one", h.death(-1, 0));
        Check.no("no such day", h.death(0, Integer.MIN_VALUE));
        Check.due("not told", h.told(0, 5), Check.NO_ANSWER);
        Check.due("go", h.go(7), 7);
        Check.yes("on the day of the birth", h.death(0, -10));
        Check.no("twice", h.death(0, 0));
        Check.due("day", h.told(0, 5), -10);
        Check.due("known", h.told(0, 6), 7);
        Check.due("person", h.person(0, -1, -1, 3), 1);
        Check.yes("today", h.death(1, 7));
    }

    private static void marriages() {
        MourningHouse h = new MourningHouse();
        h.person(0, -1, -1, -10);
        h.person(10, -1, -1, -20);
        h.person(0, -1, -1, -30);
        Check.due("alike", h.wed(0, 2, 0), -1);
        Check.due("oneself", h.wed(0, 0, 0), -1);
        Check.due("none such", h.wed(0, 3, 0), -1);
        Check.due("none such", h.wed(-1, 1, 0), -1);
        Check.due("ahead of hers", h.wed(0, 1, -11), -1);
        Check.due("ahead of his", h.wed(1, 2, -21), -1);
        Check.due("ahead of his", h.wed(2, 1, -21), -1);
        Check.due("not yet", h.wed(0, 1, 1), -1);
        Check.due("no such day", h.wed(0, 1, -36525), -1);
        Check.due("marriages", h.count(3), 0);
        Check.due("on her birth", h.wed(0, 1, -10), 0);
        Check.due("on his birth", h.wed(2, 1, -20), 1);
        Check.yes("death", h.death(1, -15));
        for (int i = 2; i < 40; i++) {
            Check.due("again", h.wed(1, 0, 0), i);
        }
        Check.due("too many", h.wed(1, 0, 0), -1);
        Check.due("marriages", h.count(3), 40);
    }

    private static void orders() {
        MourningHouse h = new MourningHouse();
        Check.due("colours", h.court(0, 1, 0), -1);
        Check.due("beyond crape", h.court(0, 1, 5), -1);
        Check.due("no days", h.court(0, 0, 1), -1);
        Check.due("too long", h.court(0, 401, 1), -1);
        Check.due("no such day", h.court(-36525, 1, 1), -1);
        Check.due("no such day", h.court(73048, 1, 1), -1);
        Check.due("less", h.court(0, -1, -1), -1);
        Check.due("first", h.court(-36524, 400, 4), 0);
        Check.due("ahead of now", h.court(73047, 1, 1), 1);
        for (int i = 2; i < 10; i++) {
            Check.due("order", h.court(0, 1, 1), i);
        }
        Check.due("one more", h.court(0, 1, 1), -1);
        Check.due("orders", h.count(4), 10);
    }

    /** Rules 0 to 11, one a word. */
    private static MourningHouse oneWordEach() {
        StringBuilder text = new StringBuilder();
        for (String w : "spouse husband wife child son daughter parent father mother sibling brother sister".split(" ")) {
            text.append("for ").append(w).append(": black 1 days\n");
        }
        MourningHouse h = Check.under(text.toString(), 12);
        h.person(10, -1, -1, -9000); // 0 the father
        h.person(0, -1, -1, -9000);  // 1 the mother
        h.person(10, 0, 1, -5000);   // 2 their son
        h.person(0, 0, 1, -4000);    // 3 their daughter
        h.person(0, 0, -1, -3000);   // 4 his daughter
        h.person(10, -1, 1, -3000);  // 5 her son
        h.wed(0, 1, -8000);
        return h;
    }

    private static void kinOf(MourningHouse h, int a, int d, String want) {
        for (int rule = 0; rule < 12; rule++) {
            boolean due = want.indexOf(" " + rule + " ") >= 0;
            Check.due("kin(" + rule + ", " + a + ", " + d + ")", h.kin(rule, a, d, 0) ? 1 : 0, due ? 1 : 0);
        }
    }

    private static void kinByOneWord() {
        MourningHouse h = oneWordEach();
        kinOf(h, 1, 0, " 0 1 ");
        kinOf(h, 0, 1, " 0 2 ");
        kinOf(h, 0, 2, " 3 4 ");
        kinOf(h, 0, 3, " 3 5 ");
        kinOf(h, 1, 5, " 3 4 ");
        kinOf(h, 0, 5, " ");
        kinOf(h, 1, 4, " ");
        kinOf(h, 2, 0, " 6 7 ");
        kinOf(h, 2, 1, " 6 8 ");
        kinOf(h, 4, 1, " ");
        kinOf(h, 2, 3, " 9 11 ");
        kinOf(h, 3, 2, " 9 10 ");
        kinOf(h, 2, 4, " 9 11 ");
        kinOf(h, 2, 5, " 9 10 ");
        kinOf(h, 4, 5, " ");
        kinOf(h, 2, 2, " ");
        Check.no("no such rule", h.kin(12, 1, 0, 0));
        Check.no("no such rule", h.kin(-1, 1, 0, 0));
        Check.no("none such", h.kin(0, 6, 0, 0));
        Check.no("none such", h.kin(0, 1, 6, 0));
        Check.no("none such", h.kin(0, -1, 0, 0));
        Check.no("none such", h.kin(0, 1, -1, 0));
        Check.no("no such day", h.kin(0, 1, 0, 73048));
        Check.no("no such day", h.kin(0, 1, 0, -36525));
        Check.yes("last day", h.kin(0, 1, 0, 73047));
        // Two whose parents aren't known are no siblings for it.
        Check.no("parents of neither known", h.kin(9, 0, 1, 0));
    }

    private static void kinByMoreWords() {
        MourningHouse h = Check.under("for child of father: black 1 days\nfor wife of brother: black 1 days\n"
            + "for brother of wife: black 1 days\nfor child of child of parent of parent: black 1 days\n"
            + "for sibling of sibling: black 1 days\nfor husband of sister of wife: black 1 days\n", 6);
        h.person(10, -1, -1, -9000); // 0 the grandfather
        h.person(10, 0, -1, -6000);  // 1
        h.person(10, 0, -1, -6000);  // 2 his brother
        h.person(0, -1, -1, -6000);  // 3 the brother's wife
        h.person(10, 1, -1, -100);   // 4 a child of 1
        h.person(0, 2, 3, -100);     // 5 a child of 2 and 3
        h.person(10, 1, -1, -90);    // 6 another child of 1
        h.person(0, -1, 3, -80);     // 7 another child of 3
        h.wed(3, 2, -200);
        Check.yes("wife of brother", h.kin(1, 1, 3, 0));
        Check.no("brother of wife, the wrong way", h.kin(2, 1, 3, 0));
        Check.no("the mourner isn't their own brother's wife", h.kin(1, 2, 3, 0));
        Check.yes("child of father", h.kin(0, 4, 6, 0));
        Check.no("oneself", h.kin(0, 4, 4, 0));
        Check.yes("cousin", h.kin(3, 4, 5, 0));
        // By the way of the mourner's own siblings it would be the mourner: left out each time.
        Check.yes("a brother is a grandchild too", h.kin(3, 4, 6, 0));
        Check.no("sibling of sibling is nobody", h.kin(4, 7, 5, 0));
        Check.no("sibling of sibling is nobody", h.kin(4, 5, 7, 0));
        h.wed(4, 5, 0);
        Check.no("a wife's sister is no brother", h.kin(2, 4, 7, 0));
        h.person(10, -1, -1, -95);   // 8
        h.wed(8, 7, 0);
        Check.yes("husband of sister of wife", h.kin(5, 4, 8, 0));
        Check.no("and not oneself", h.kin(5, 4, 4, 0));
        middleOnes();
    }

    private static void middleOnes() {
        // Whom the mourner would have to be on the way is left out.
        MourningHouse h = Check.under("for wife of child of parent: black 1 days\nfor child of spouse: black 1 days", 2);
        h.person(10, -1, -1, -9000); // 0
        h.person(10, 0, -1, -5000);  // 1
        h.person(0, -1, -1, -5000);  // 2
        h.wed(1, 2, -10);
        Check.no("one's own wife by oneself", h.kin(0, 1, 2, 0));
        h.person(10, 0, -1, -5000);  // 3
        Check.yes("a brother's wife", h.kin(0, 3, 2, 0));
        h.person(0, 1, -1, -5);      // 4
        Check.yes("stepchild", h.kin(1, 2, 4, 0));
        Check.no("own child by nobody", h.kin(1, 1, 4, 0));
    }

    private static void kinByDaysAndLaws() {
        MourningHouse h = new MourningHouse();
        h.person(10, -1, -1, -9000);
        h.person(0, -1, -1, -9000);
        Check.no("no law", h.kin(0, 0, 1, 0));
        Check.due("take", Check.take(h, "for wife: black 1 days"), 1);
        h.wed(0, 1, -50);
        Check.no("the day ahead", h.kin(0, 0, 1, -51));
        Check.yes("the day itself", h.kin(0, 0, 1, -50));
        Check.due("take", Check.take(h, "for husband: black 1 days"), 1);
        Check.no("by the latest law", h.kin(0, 0, 1, 0));
        Check.yes("by the latest law", h.kin(0, 1, 0, 0));
        Check.due("take", Check.take(h, ""), 0);
        Check.no("no rule there", h.kin(0, 1, 0, 0));
    }

    private static void told() {
        MourningHouse h = new MourningHouse();
        h.person(12, -1, -1, -50);
        h.person(3, -1, -1, -40);
        h.go(3);
        h.person(1, 0, 1, -30);
        h.go(4);
        h.death(2, 5);
        int[] want = {0, 1, 0, 1, -30, 5, 7};
        for (int what = 0; what < 7; what++) {
            Check.due("told(2, " + what + ")", h.told(2, what), want[what]);
        }
        Check.due("others", h.told(2, 7), Check.NO_ANSWER);
        Check.due("others", h.told(2, -1), Check.NO_ANSWER);
        Check.due("none such", h.told(3, 0), Check.NO_ANSWER);
        Check.due("none such", h.told(-1, 0), Check.NO_ANSWER);
        Check.due("sex", h.told(0, 0), 1);
        Check.due("size", h.told(0, 1), 2);
        Check.due("no father told", h.told(0, 2), Check.NO_ANSWER);
        Check.due("no mother told", h.told(0, 3), Check.NO_ANSWER);
        Check.due("no death told", h.told(0, 5), Check.NO_ANSWER);
        Check.due("no death known", h.told(0, 6), Check.NO_ANSWER);
    }
}
