/** The boundary cases of promises 15 to 18 and of the terms' part 4: a sentence, a test. */
public final class MourningEdgesTest {
    private static final int LEAST = Integer.MIN_VALUE;
    private static final int MOST = Integer.MAX_VALUE;
    private static final int MAN = 10;
    private static final int WOMAN = 0;

    public static void main(String[] args) {
        deathKnown();
        marriagesUpToTheDeath();
        lawOfTheDeath();
        nearestRule();
        everyPersonKnown();
        whoMournsNot();
        firstAndLastRule();
        knownDays();
        partsEndWhole();
        unitsOfLengths();
        halvesOfMen();
        begunByNews();
        notAheadOfTheBirth();
        othersBesideOneAnother();
        waitsForTheDeepest();
        waitsNotForAsDeep();
        overOnAWedding();
        weddingOfThatDay();
        weddingsAsKnown();
        feastsAsLightAsTold();
        feastsOfTheirDate();
        heirsDays();
        heirsAreChildren();
        firmOnes();
        ordersAtLeast();
        underFullYears();
        whoHasNoDepth();
        depthThatIsNone();
        lightByTheLawOfTheDay();
        lastDays();
        lastAtTheLastDay();
        overOnItsFirstDay();
        lastThatIsNone();
        edgeLines();
        edgeDays();
        edgeThatIsNone();
        fortyMourned();
        Check.done();
    }

    /** Depths from a day on, one a sign. */
    private static void depths(MourningHouse h, int a, int from, String want) {
        int now = h.count(0);
        for (int i = 0; i < want.length(); i++) {
            Check.due("depth(" + a + ", " + (from + i) + ", " + now + ")", h.depth(a, from + i, now), want.charAt(i) - '0');
        }
    }

    /** A father 0 (born -9000), children from 1 on, by turns a daughter and a son (born -5000). */
    private static MourningHouse father(int children, String text, int rules) {
        MourningHouse h = Check.under(text, rules);
        Check.due("father", h.person(MAN, -1, -1, -9000), 0);
        for (int i = 1; i <= children; i++) {
            Check.due("child", h.person(i % 2 == 1 ? WOMAN : MAN, 0, -1, -5000), i);
        }
        return h;
    }

    // ---- Promise 15: mourns ----

    /** "if D's DEATH is KNOWN" */
    private static void deathKnown() {
        MourningHouse h = father(1, "for father: black 9 days", 1);
        h.go(10);
        Check.due("no death", h.mourns(1, 0, 10), -1);
        h.death(0, 3);
        h.go(10);
        Check.due("the day ahead", h.mourns(1, 0, 9), -1);
        Check.due("the day", h.mourns(1, 0, 10), 0);
        Check.due("the day behind", h.mourns(1, 0, 11), 0);
        Check.due("on the death's day it wasn't known", h.mourns(1, 0, 3), -1);
    }

    /** "(MARRIAGES on or ahead of that DEATH)" */
    private static void marriagesUpToTheDeath() {
        for (int wedding = 3; wedding <= 5; wedding++) {
            MourningHouse h = Check.under("for wife: black 9 days\nfor sister of wife: grey 9 days", 2);
            h.person(MAN, -1, -1, -9000);
            h.person(WOMAN, -1, -1, -9000);
            h.person(WOMAN, -1, 1, -5000);
            h.person(WOMAN, -1, 1, -5000);
            h.go(9);
            h.death(3, 4);
            h.wed(0, 2, wedding);
            Check.due("sister of wife, wed on " + wedding, h.mourns(0, 3, 9), wedding <= 4 ? 1 : -1);
            h.death(2, 4);
            Check.due("wife, wed on " + wedding, h.mourns(0, 2, 9), wedding <= 4 ? 0 : -1);
            Check.due("depth, wed on " + wedding, h.depth(0, 4, 9), wedding <= 4 ? 3 : 0);
        }
    }

    /** "THE LAW of a DAY is the latest one TAKEN on or ahead of it"; "ahead of the first one none: nobody mourns" */
    private static void lawOfTheDeath() {
        for (int death = 3; death <= 9; death++) {
            MourningHouse h = new MourningHouse();
            h.person(MAN, -1, -1, -9000);
            h.person(WOMAN, 0, -1, -5000);
            h.go(4);
            Check.due("take", Check.take(h, "for father: lilac 90 days"), 1);
            h.go(2);
            Check.due("take", Check.take(h, "for son: lilac 90 days\nfor father: grey 90 days"), 2);
            h.go(2);
            Check.due("take", Check.take(h, "for son: lilac 90 days"), 1);
            Check.due("take", Check.take(h, "for son: lilac 90 days\nfor son: lilac 90 days\nfor father: black 90 days"), 3);
            h.go(1);
            h.death(0, death);
            int rule = death < 4 ? -1 : death < 6 ? 0 : death < 8 ? 1 : 2;
            Check.due("law of day " + death, h.mourns(1, 0, 9), rule);
            Check.due("depth by law of day " + death, h.depth(1, 20, 9), rule + 1);
        }
        MourningHouse early = father(1, "for father: black 9 days", 1);
        early.death(0, -1);
        Check.due("the day ahead of the first law", early.mourns(1, 0, 0), -1);
        depths(early, 1, -2, "000");
    }

    /** "the NEAREST one (of the fewest W), of like ones the last LINE" */
    private static void nearestRule() {
        String[] rules = {"for son: grey 1 days\n", "for brother: grey 1 days\n", "for son of father: grey 1 days\n",
            "for child of parent: grey 1 days\n", "for brother of sibling: grey 1 days\n",
            "for son of father of sibling: grey 1 days\n", "for child of parent of child of parent: grey 1 days\n"};
        int[][] chosen = {{6}, {5, 6}, {6, 5}, {4, 5, 6}, {5, 4, 6}, {3, 4}, {4, 3}, {2, 3, 4}, {4, 3, 2}, {1, 2, 3}, {2, 3, 1, 6},
            {1, 1}, {1, 2, 1}, {0, 1, 0}, {2, 1, 2}, {0, 6, 0}, {0, 0, 0}, {6, 6}, {1, 6, 5, 4, 3, 2}};
        int[] want = {0, 0, 1, 0, 1, 1, 1, 2, 2, 0, 2, 1, 2, 1, 1, 1, -1, 1, 0};
        for (int i = 0; i < chosen.length; i++) {
            StringBuilder text = new StringBuilder();
            for (int rule : chosen[i]) {
                text.append(rules[rule]);
            }
            MourningHouse h = father(3, text.toString(), chosen[i].length);
            h.death(2, 0);
            Check.due("nearest of choice " + i, h.mourns(1, 2, 0), want[i]);
        }
    }

    /** Those on the way must be KNOWN, too. */
    private static void everyPersonKnown() {
        MourningHouse h = Check.under("for sibling: grey 9 days\nfor sibling of sibling: black 9 days\nfor mother: grey 9 days", 3);
        h.person(MAN, -1, -1, -9000);
        h.person(WOMAN, -1, -1, -9000);
        h.person(WOMAN, 0, -1, -5000);
        h.person(WOMAN, -1, 1, -5000);
        h.death(3, 0);
        Check.due("no kin", h.mourns(2, 3, 0), -1);
        h.go(5);
        h.person(MAN, 0, 1, -4000);
        Check.due("by a brother that isn't known", h.mourns(2, 3, 4), -1);
        Check.due("by a brother that is known", h.mourns(2, 3, 5), 1);
        Check.due("that brother, not known", h.mourns(4, 3, 4), -1);
        Check.due("that brother, known", h.mourns(4, 3, 5), 0);
        Check.due("depth, as known", h.depth(2, 3, 4), 0);
        Check.due("depth, as known", h.depth(2, 3, 5), 3);
    }

    /** "NONE if A doesn't, or there is none such" */
    private static void whoMournsNot() {
        MourningHouse h = father(2, "for father: black 9 days\nfor child of father: grey 9 days", 2);
        h.death(0, 0);
        Check.due("the father", h.mourns(1, 0, 0), 0);
        Check.due("the living", h.mourns(1, 2, 0), -1);
        Check.due("for oneself", h.mourns(0, 0, 0), -1);
        Check.due("the dead for the living", h.mourns(0, 1, 0), -1);
        h.death(1, 0);
        Check.due("not for oneself", h.mourns(1, 1, 0), -1);
        Check.due("a sister", h.mourns(2, 1, 0), 1);
        for (int none : new int[] {-1, 3, 4, 40, LEAST, MOST}) {
            Check.due("mourns(" + none + ", 0)", h.mourns(none, 0, 0), -1);
            Check.due("mourns(1, " + none + ")", h.mourns(1, none, 0), -1);
        }
    }

    /** "its number in its LAW, from 0 on" */
    private static void firstAndLastRule() {
        String others = "for wife: grey 1 days\n".repeat(29);
        MourningHouse first = father(1, "for father: crape 9 days\n" + others, 30);
        first.death(0, 0);
        Check.due("the first one", first.mourns(1, 0, 0), 0);
        Check.due("its depth", first.depth(1, 8, 0), 4);
        MourningHouse last = father(1, others + "for father: crape 2 days, black 2 days, grey 2 days, lilac 2 days; wait", 30);
        last.death(0, 0);
        Check.due("the 30th", last.mourns(1, 0, 0), 29);
        depths(last, 1, 0, "443322110");
    }

    /** "AS KNOWN on a DAY (NOW at most)" */
    private static void knownDays() {
        MourningHouse h = father(1, "for father: black 9 days", 1);
        h.death(0, 0);
        h.go(4);
        for (int none : new int[] {5, 6, 73047, 73048, -1, -36524, -36525, LEAST, MOST}) {
            Check.due("mourns, known on " + none, h.mourns(1, 0, none), -1);
            Check.due("depth, known on " + none, h.depth(1, 2, none), -1);
            Check.no("may, known on " + none, h.may(1, 0, 20, none));
        }
        for (int day = 0; day <= 4; day++) {
            Check.due("mourns, known on " + day, h.mourns(1, 0, day), 0);
            Check.due("depth, known on " + day, h.depth(1, 2, day), 3);
            Check.yes("may, known on " + day, h.may(1, 0, 20, day));
        }
    }

    // ---- Promise 16: depth ----

    /** "the first one from the DAY on which it BEGINS, each other one from where the one ahead ended" */
    private static void partsEndWhole() {
        MourningHouse h = father(1, "for father: crape 1 days, black 1 days, grey 1 days, lilac 1 days", 1);
        h.death(0, 0);
        depths(h, 1, -2, "00432100");
        MourningHouse longer = father(1, "for father: crape 3 days, grey 2 days, lilac 4 days", 1);
        longer.go(5);
        longer.death(0, 5);
        depths(longer, 1, 3, "00444221111000");
        MourningHouse longest = father(1, "for father: crape 999 days, lilac 999 weeks", 1);
        longest.death(0, 0);
        Check.due("the last of crape", longest.depth(1, 998, 0), 4);
        Check.due("the first of lilac", longest.depth(1, 999, 0), 1);
        Check.due("the last of lilac", longest.depth(1, 999 + 6993 - 1, 0), 1);
        Check.due("over", longest.depth(1, 999 + 6993, 0), 0);
    }

    /** "WEEKS 7 DAYS", "YEARS are 12 MONTHS", "the last one of that month, if it has fewer" */
    private static void unitsOfLengths() {
        String[] texts = {"1 weeks", "2 weeks", "1 months", "2 months", "12 months", "1 years", "4 years"};
        // From the 31st of January 1804 on.
        int[] ends = {18040207, 18040214, 18040229, 18040331, 18050131, 18050131, 18080131};
        for (int i = 0; i < texts.length; i++) {
            MourningHouse h = new MourningHouse();
            int begin = h.day(18040131);
            h.go(begin);
            Check.due("take", Check.take(h, "for father: grey " + texts[i]), 1);
            h.person(MAN, -1, -1, -9000);
            h.person(WOMAN, 0, -1, -5000);
            h.death(0, begin);
            int end = h.day(ends[i]);
            Check.due("the last day of " + texts[i], h.depth(1, end - 1, begin), 2);
            Check.due("behind " + texts[i], h.depth(1, end, begin), 0);
            Check.due("last of " + texts[i], h.last(1, 0), end - 1);
        }
        // A month from the last of February on, not from the 31st.
        MourningHouse h = father(1, "for father: grey 1 months, lilac 1 months", 1);
        h.go(30);
        h.death(0, 30);
        Check.due("February", h.depth(1, h.day(18000227), 30), 2);
        Check.due("February", h.depth(1, h.day(18000228), 30), 1);
        Check.due("to the 27th of March", h.last(1, 0), h.day(18000327));
    }

    /** "A man's are a half of these, a begun DAY as a whole one, if the RULE has men half." */
    private static void halvesOfMen() {
        int[] days = {1, 2, 3, 4, 5, 998, 999};
        for (int n : days) {
            MourningHouse h = father(2, "for father: black " + n + " days; men half", 1);
            h.death(0, 0);
            Check.due("hers of " + n, h.last(1, 0), n - 1);
            Check.due("his of " + n, h.last(2, 0), (n + 1) / 2 - 1);
        }
        MourningHouse h = father(2, "for father: crape 1 days, black 3 days, grey 2 days, lilac 1 days; men half\n"
            + "for daughter: crape 3 days\nfor brother: crape 3 days", 3);
        h.death(0, 0);
        depths(h, 1, 0, "43332210");
        depths(h, 2, 0, "43321000");
        // Each one's whole length is halved: a month from the first of February on has 28 days.
        MourningHouse months = father(2, "for father: crape 1 months, black 1 months; men half", 1);
        months.death(0, 0);
        Check.due("hers", months.last(1, 0), 30 + 28);
        Check.due("his first one", months.depth(2, 15, 0), 4);
        Check.due("his second one", months.depth(2, 16, 0), 3);
        Check.due("his", months.last(2, 0), 15 + 14);
        MourningHouse whole = father(2, "for father: black 9 days; wait; firm; news", 1);
        whole.death(0, 0);
        Check.due("a man's without half", whole.last(2, 0), 8);
    }

    /** "on the DAY of the DEATH, or on that on which it is KNOWN, if the RULE has news" */
    private static void begunByNews() {
        MourningHouse h = father(3, "for father: black 3 days; news\nfor sibling: grey 3 days", 2);
        h.go(9);
        h.death(0, 4);
        h.death(3, 4);
        depths(h, 1, 2, "00222003330");
        Check.due("the father's", h.last(1, 0), 11);
        Check.due("the sister's", h.last(1, 3), 6);
        MourningHouse same = father(1, "for father: black 3 days; news", 1);
        same.death(0, 0);
        depths(same, 1, -1, "03330");
    }

    /** "(not ahead of A's birth, then on that DAY)" */
    private static void notAheadOfTheBirth() {
        for (int born = 3; born <= 7; born++) {
            MourningHouse h = father(0, "for father: black 3 days", 1);
            h.go(7);
            h.death(0, 5);
            h.person(WOMAN, 0, -1, born);
            int begin = Math.max(born, 5);
            Check.due("the day ahead, born on " + born, h.depth(1, begin - 1, 7), born < begin ? 0 : -1);
            Check.due("the first day, born on " + born, h.depth(1, begin, 7), 3);
            Check.due("last, born on " + born, h.last(1, 0), begin + 2);
        }
        for (int born = 7; born <= 9; born++) {
            MourningHouse h = father(0, "for father: black 3 days; news", 1);
            h.go(8);
            h.death(0, 5);
            h.go(1);
            h.person(WOMAN, 0, -1, born);
            Check.due("by news on day 8, born on " + born, h.last(1, 0), Math.max(born, 8) + 2);
        }
    }

    /** "each that has begun and isn't over has the DEPTH of the P in which it is"; "Behind the DAY each is one DAY further" */
    private static void othersBesideOneAnother() {
        MourningHouse h = father(3, "for father: crape 2 days, lilac 4 days\nfor brother: black 3 days\nfor sister: grey 5 days", 3);
        h.go(9);
        h.death(0, 3);
        h.death(2, 2);
        h.death(3, 4);
        depths(h, 1, 0, "0034422220");
        Check.due("the father's", h.last(1, 0), 8);
        Check.due("the brother's", h.last(1, 2), 4);
        Check.due("the sister's", h.last(1, 3), 8);
    }

    /** "but one of a RULE with wait only, if its DEPTH is the DEEPEST" */
    private static void waitsForTheDeepest() {
        MourningHouse h = father(3, "for father: black 2 days, grey 1 days\nfor brother: grey 2 days; wait\nfor sister: lilac 1 days; wait", 3);
        h.death(0, 0);
        h.death(2, 0);
        h.death(3, 0);
        // Grey runs beside grey, and lilac comes behind all.
        depths(h, 1, 0, "3322100");
        Check.due("the brother's", h.last(1, 2), 3);
        Check.due("the sister's", h.last(1, 3), 4);
        // Without wait it is over meanwhile.
        MourningHouse none = father(3, "for father: black 2 days, grey 1 days\nfor brother: grey 2 days\nfor sister: lilac 1 days; wait", 3);
        none.death(0, 0);
        none.death(2, 0);
        none.death(3, 0);
        depths(none, 1, 0, "33210");
        // What it is deeper than doesn't hold it.
        MourningHouse deeper = father(2, "for father: crape 2 days; wait\nfor brother: black 2 days", 2);
        deeper.death(0, 0);
        deeper.death(2, 0);
        depths(deeper, 1, 0, "440");
        // A deeper one that begins later holds it from then on.
        MourningHouse held = father(2, "for father: black 3 days; wait\nfor brother: crape 2 days", 2);
        held.go(2);
        held.death(0, 0);
        held.death(2, 1);
        depths(held, 1, 0, "344330");
        // Neither a feast nor an order is the deepest's matter.
        MourningHouse feast = father(2, "for father: black 2 days\nfor brother: grey 1 days; wait\nfeast 1.1 to colours", 2);
        feast.death(0, 0);
        feast.death(2, 0);
        feast.court(2, 1, 4);
        depths(feast, 1, 0, "0340");
        Check.due("the brother's", feast.last(1, 2), 2);
    }

    private static void waitsNotForAsDeep() {
        MourningHouse h = father(3, "for father: grey 3 days; wait\nfor sibling: grey 2 days, lilac 2 days; wait", 2);
        h.death(0, 0);
        h.death(2, 0);
        h.death(3, 0);
        depths(h, 1, 0, "222110");
        Check.due("the father's", h.last(1, 0), 2);
        Check.due("the brother's", h.last(1, 2), 4);
        Check.due("the sister's", h.last(1, 3), 4);
    }

    /** "On a DAY on which A weds ..., each whose DEPTH isn't above that told by wedding ends ... is over, ahead of all else" */
    private static void overOnAWedding() {
        String[] stuffs = {"colours", "lilac", "grey", "black", "crape"};
        for (int ends = 0; ends <= 4; ends++) {
            for (int depth = 1; depth <= 4; depth++) {
                MourningHouse h = father(1, "for father: " + stuffs[depth] + " 9 days\nwedding ends " + stuffs[ends], 1);
                h.person(MAN, -1, -1, -9000);
                h.death(0, 0);
                h.go(4);
                h.wed(2, 1, 4);
                Check.due("last of " + stuffs[depth] + ", ends " + stuffs[ends], h.last(1, 0), depth <= ends ? 3 : 8);
                Check.due("the day ahead", h.depth(1, 3, 4), depth);
                Check.due("the day", h.depth(1, 4, 4), depth <= ends ? 0 : depth);
                Check.due("the day behind", h.depth(1, 5, 4), depth <= ends ? 0 : depth);
            }
        }
        for (int depth = 1; depth <= 4; depth++) {
            MourningHouse h = father(1, "for father: " + stuffs[depth] + " 9 days\nmay wed from crape", 1);
            h.person(MAN, -1, -1, -9000);
            h.death(0, 0);
            h.wed(2, 1, 0);
            Check.due("last of " + stuffs[depth] + ", if it isn't told", h.last(1, 0), 8);
        }
        // Its depth is that of the part in which it is on that day.
        for (int wedding = 1; wedding <= 5; wedding++) {
            MourningHouse h = father(1, "for father: black 3 days, grey 3 days\nwedding ends grey", 1);
            h.person(MAN, -1, -1, -9000);
            h.death(0, 0);
            h.go(9);
            h.wed(1, 2, wedding);
            Check.due("wed on " + wedding, h.last(1, 0), wedding < 3 ? 5 : wedding - 1);
        }
        // What was held by it goes on from that day on.
        MourningHouse held = father(2, "for father: black 9 days\nfor brother: grey 3 days; wait; firm\nwedding ends lilac", 2);
        held.person(MAN, -1, -1, -9000);
        held.death(0, 0);
        held.death(2, 0);
        held.go(2);
        Check.due("held", held.last(1, 2), 11);
        Check.due("take", Check.take(held, "wedding ends black"), 0);
        held.wed(3, 1, 2);
        Check.due("both are over", held.last(1, 2), 1);
    }

    /** "of THE LAW of that DAY; if told"; "(one that BEGINS on it, too)" */
    private static void weddingOfThatDay() {
        for (int wedding = 3; wedding <= 6; wedding++) {
            MourningHouse h = father(1, "for father: grey 9 days", 1);
            h.person(MAN, -1, -1, -9000);
            h.death(0, 0);
            h.go(4);
            Check.due("take", Check.take(h, "wedding ends grey"), 0);
            h.go(2);
            Check.due("take", Check.take(h, "may call from grey"), 0);
            h.wed(1, 2, wedding);
            Check.due("wed on " + wedding, h.last(1, 0), wedding == 4 || wedding == 5 ? wedding - 1 : 8);
        }
        for (int death = 2; death <= 5; death++) {
            MourningHouse h = father(1, "for father: grey 9 days\nwedding ends crape", 1);
            h.person(MAN, -1, -1, -9000);
            h.go(5);
            h.wed(1, 2, 4);
            h.death(0, death);
            Check.due("death on " + death, h.last(1, 0), death < 4 ? 3 : death == 4 ? Check.NO_ANSWER : 13);
            Check.due("depth of death on " + death, h.depth(1, 5, 5), death == 5 ? 2 : 0);
        }
    }

    /** "A weds (AS KNOWN)" */
    private static void weddingsAsKnown() {
        MourningHouse h = father(2, "for father: grey 19 days\nwedding ends crape", 1);
        h.person(MAN, -1, -1, -9000);
        h.death(0, 0);
        h.go(9);
        h.wed(3, 1, 5);
        Check.due("the day ahead", h.depth(1, 7, 8), 2);
        Check.due("the day", h.depth(1, 7, 9), 0);
        Check.due("another's wedding", h.depth(2, 7, 9), 2);
        Check.due("his own", h.depth(3, 7, 9), 0);
        // The earlier one of two ends it; the later one ends what began meanwhile.
        h.wed(1, 3, 3);
        Check.due("the earlier one", h.last(1, 0), 2);
        MourningHouse twice = father(2, "for father: grey 19 days\nfor brother: lilac 19 days\nwedding ends crape", 2);
        twice.person(MAN, -1, -1, -9000);
        twice.go(9);
        twice.wed(1, 3, 8);
        twice.wed(1, 3, 2);
        twice.death(0, 0);
        twice.death(2, 5);
        Check.due("the first wedding", twice.last(1, 0), 1);
        Check.due("the second wedding", twice.last(1, 2), 7);
        depths(twice, 1, 0, "22000111000");
        // Weddings on two days that follow one another: each ends what is there on its own day.
        MourningHouse days = father(2, "for father: grey 19 days\nfor brother: lilac 19 days\nwedding ends crape", 2);
        days.person(MAN, -1, -1, -9000);
        days.go(9);
        days.wed(1, 3, 4);
        days.wed(1, 3, 5);
        days.death(0, 0);
        days.death(2, 5);
        Check.due("the first wedding", days.last(1, 0), 3);
        Check.due("the second wedding", days.last(1, 2), Check.NO_ANSWER);
    }

    /** "at most S on the DATE of a feast" */
    private static void feastsAsLightAsTold() {
        String[] stuffs = {"colours", "lilac", "grey", "black", "crape"};
        for (int feast = 0; feast <= 4; feast++) {
            for (int depth = 1; depth <= 4; depth++) {
                MourningHouse h = father(1, "for father: " + stuffs[depth] + " 9 days\nfeast 1.3 to " + stuffs[feast], 1);
                h.death(0, 0);
                Check.due("the day ahead", h.depth(1, 1, 0), depth);
                Check.due(stuffs[depth] + " to " + stuffs[feast], h.depth(1, 2, 0), Math.min(depth, feast));
                Check.due("the day behind", h.depth(1, 3, 0), depth);
                Check.due("it goes on all the same", h.last(1, 0), 8);
            }
        }
        // Each of like date, whatever their order; the eighth one, too.
        MourningHouse many = father(1, "for father: crape 400 days\nfeast 1.5 to grey\nfeast 1.5 to lilac\nfeast 1.5 to black\n"
            + "feast 1.6 to black\nfeast 1.6 to grey\nfeast 1.7 to grey\nfeast 1.7 to black\nfeast 12.31 to colours", 1);
        many.death(0, 0);
        depths(many, 1, 3, "41224");
        Check.due("the eighth one", many.depth(1, 364, 0), 0);
    }

    /** Each year's, and the 29th of February in leap years alone. */
    private static void feastsOfTheirDate() {
        MourningHouse h = father(1, "for father: crape 20 years\nfeast 2.29 to lilac\nfeast 1.1 to grey", 1);
        h.death(0, 0);
        for (int year = 1800; year <= 1812; year++) {
            Check.due("the first of January " + year, h.depth(1, h.day(year * 10000 + 101), 0), 2);
            Check.due("the 28th of February " + year, h.depth(1, h.day(year * 10000 + 228), 0), 4);
            Check.due("the first of March " + year, h.depth(1, h.day(year * 10000 + 301), 0), 4);
        }
        for (int year : new int[] {1804, 1808, 1812}) {
            Check.due("the 29th of February " + year, h.depth(1, h.day(year * 10000 + 229), 0), 1);
        }
    }

    /** "at most S if a CHILD of A was BORN not more than N - 1 DAYS ahead (heir; KNOWN, on or ahead of the DAY)" */
    private static void heirsDays() {
        for (int n : new int[] {1, 2, 399, 400}) {
            MourningHouse h = father(1, "for father: black 900 days\nheir " + n + " days to lilac", 1);
            h.death(0, 0);
            h.go(9);
            h.person(MAN, -1, 1, 5);
            Check.due("the day ahead, heir " + n, h.depth(1, 4, 9), 3);
            Check.due("the day of the birth, heir " + n, h.depth(1, 5, 9), 1);
            Check.due("the last day, heir " + n, h.depth(1, 5 + n - 1, 9), 1);
            Check.due("the day behind, heir " + n, h.depth(1, 5 + n, 9), 3);
            Check.due("not known, heir " + n, h.depth(1, 5, 8), 3);
            Check.due("it goes on all the same", h.last(1, 0), 899);
        }
        String[] stuffs = {"colours", "lilac", "grey", "black", "crape"};
        for (int s = 0; s <= 4; s++) {
            MourningHouse h = father(1, "for father: grey 900 days\nheir 9 days to " + stuffs[s], 1);
            h.death(0, 0);
            h.person(MAN, -1, 1, 0);
            Check.due("grey to " + stuffs[s], h.depth(1, 0, 0), Math.min(2, s));
        }
    }

    private static void heirsAreChildren() {
        MourningHouse h = father(2, "for father: black 900 days\nfor sibling: grey 900 days\nheir 9 days to lilac", 2);
        h.death(0, 0);
        h.go(3);
        h.person(WOMAN, 2, -1, 1);
        h.person(WOMAN, -1, -1, 1);
        Check.due("a sister's none", h.depth(1, 1, 3), 3);
        Check.due("a father's daughter", h.depth(2, 1, 3), 1);
        h.person(WOMAN, -1, 1, 3);
        Check.due("a mother's daughter", h.depth(1, 3, 3), 1);
        h.death(5, 3);
        Check.due("though it died", h.depth(1, 3, 3), 1);
        Check.due("and behind that", h.depth(1, 4, 3), 1);
        Check.due("the child's own", h.depth(5, 3, 3), 0);
    }

    /** "LIGHTER on a DAY are all but those of a RULE with firm" */
    private static void firmOnes() {
        MourningHouse h = father(2, "for father: grey 9 days; firm\nfor brother: black 9 days\nfeast 1.3 to lilac\nheir 1 days to colours", 2);
        h.death(0, 0);
        h.go(4);
        h.person(MAN, -1, 1, 4);
        depths(h, 1, 0, "2222222220");
        h.death(2, 0);
        // The other one is lighter: the firm one is the greatest that is left.
        depths(h, 1, 0, "3323233330");
        h.court(2, 1, 4);
        depths(h, 1, 1, "343");
    }

    /** "at least that of a COURT's order ... that runs" */
    private static void ordersAtLeast() {
        for (int order = 1; order <= 4; order++) {
            for (int depth = 1; depth <= 4; depth++) {
                String[] stuffs = {"colours", "lilac", "grey", "black", "crape"};
                MourningHouse h = father(1, "for father: " + stuffs[depth] + " 9 days", 1);
                h.death(0, 0);
                h.court(3, 2, order);
                Check.due("ahead", h.depth(1, 2, 0), depth);
                Check.due("the first day", h.depth(1, 3, 0), Math.max(depth, order));
                Check.due("the last day", h.depth(1, 4, 0), Math.max(depth, order));
                Check.due("behind", h.depth(1, 5, 0), depth);
                Check.due("who mourns for nobody", h.depth(0, 0, 0), 0);
            }
        }
        // The deepest of those that run, and lighter on no feast.
        MourningHouse h = Check.under("feast 1.4 to colours\nheir 400 days to colours", 0);
        h.person(WOMAN, -1, -1, -9000);
        h.person(WOMAN, -1, 0, 0);
        h.court(2, 4, 2);
        h.court(3, 1, 4);
        h.court(1, 9, 1);
        depths(h, 0, 0, "0124221111");
        Check.due("no cards' end by it", h.edge(0, 3), 8);
    }

    /** "at most S, if A's full years ... are fewer than N (under, by THE LAW of that DAY)" */
    private static void underFullYears() {
        for (int n : new int[] {1, 2, 29, 30}) {
            MourningHouse h = new MourningHouse();
            h.person(WOMAN, -1, -1, h.day(17710310));
            h.court(h.day(18000101), 400, 4);
            h.court(h.day(18010101), 400, 4);
            Check.due("take", Check.take(h, "under " + n + " to grey"), 0);
            int full = h.day((1771 + n) * 10000 + 310);
            if (full > 0) {
                Check.due("the day ahead of " + n, h.depth(0, full - 1, 0), 2);
                Check.due("the day of " + n, h.depth(0, full, 0), 4);
            } else {
                Check.due("older than " + n, h.depth(0, 0, 0), 4);
            }
        }
        MourningHouse h = new MourningHouse();
        h.go(1900);
        Check.due("take", Check.take(h, "under 1 to lilac"), 0);
        int leapDay = h.day(18040229);
        h.person(WOMAN, -1, -1, leapDay);
        h.person(WOMAN, -1, -1, leapDay + 1);
        h.court(leapDay, 400, 3);
        Check.due("take", Check.take(h, "under 1 to lilac"), 0);
        Check.due("ahead of the law", h.depth(0, leapDay, 1900), 3);
        Check.due("a year from a leap day, the day ahead", h.depth(0, h.day(18050227), 1900), 3);
        MourningHouse leap = new MourningHouse();
        leap.go(leapDay);
        Check.due("take", Check.take(leap, "under 1 to lilac"), 0);
        leap.person(WOMAN, -1, -1, leapDay);
        leap.court(leapDay, 400, 3);
        Check.due("on the birth", leap.depth(0, leapDay, leapDay), 1);
        Check.due("a year from a leap day, the day ahead", leap.depth(0, leap.day(18050227), leapDay), 1);
        Check.due("a year from a leap day", leap.depth(0, leap.day(18050228), leapDay), 3);
        // At most, not at least; and firm ones, too.
        String[] stuffs = {"colours", "lilac", "grey", "black", "crape"};
        for (int s = 0; s <= 4; s++) {
            for (int depth = 1; depth <= 4; depth++) {
                MourningHouse young = father(1, "for father: " + stuffs[depth] + " 9 days; firm\nunder 30 to " + stuffs[s], 1);
                young.death(0, 0);
                Check.due(stuffs[depth] + " under 30 to " + stuffs[s], young.depth(1, 0, 0), Math.min(depth, s));
                Check.due("none under 30 to " + stuffs[s], young.depth(1, 9, 0), 0);
                Check.due("it goes on all the same", young.last(1, 0), 8);
            }
        }
    }

    /** "Who isn't BORN yet, or is dead (from the DAY behind the DEATH on, AS KNOWN), or isn't KNOWN, has none (NONE)." */
    private static void whoHasNoDepth() {
        MourningHouse h = new MourningHouse();
        h.go(5);
        h.person(WOMAN, -1, -1, 2);
        h.go(5);
        h.death(0, 7);
        h.go(1);
        int[] want = {-1, -1, 0, 0, 0, 0, 0, 0, -1, -1, -1, -1};
        for (int day = 0; day < 12; day++) {
            Check.due("depth on " + day, h.depth(0, day, 11), want[day]);
            Check.due("depth on " + day + " ahead of the news", h.depth(0, day, 9), day < 2 ? -1 : 0);
            Check.due("depth on " + day + " with the news", h.depth(0, day, 10), want[day]);
            Check.due("depth on " + day + " as told", h.depth(0, day, 5), day < 2 ? -1 : 0);
            Check.due("depth on " + day + " ahead of being told", h.depth(0, day, 4), -1);
        }
        MourningHouse once = new MourningHouse();
        once.person(WOMAN, -1, -1, -4);
        once.death(0, -4);
        Check.due("the day ahead", once.depth(0, -5, 0), -1);
        Check.due("born and dead on a day", once.depth(0, -4, 0), 0);
        Check.due("the day behind", once.depth(0, -3, 0), -1);
    }

    /** "NONE if there is none such" */
    private static void depthThatIsNone() {
        MourningHouse h = new MourningHouse();
        h.person(WOMAN, -1, -1, -36524);
        Check.due("the first day", h.depth(0, -36524, 0), 0);
        Check.due("the last day", h.depth(0, 73047, 0), 0);
        for (int none : new int[] {-36525, 73048, LEAST, MOST}) {
            Check.due("day " + none, h.depth(0, none, 0), -1);
        }
        for (int none : new int[] {-1, 1, 40, LEAST, MOST}) {
            Check.due("person " + none, h.depth(none, 0, 0), -1);
        }
    }

    /** "nothing makes lighter on them": DAYS ahead of the first LAW; else by THE LAW of the DAY */
    private static void lightByTheLawOfTheDay() {
        MourningHouse h = new MourningHouse();
        h.person(MAN, -1, -1, -9000);
        h.person(WOMAN, 0, -1, -5000);
        h.court(-5, 400, 4);
        h.go(2);
        Check.due("take", Check.take(h, "for father: black 99 days\nunder 30 to grey"), 1);
        h.death(0, 2);
        h.go(3);
        Check.due("take", Check.take(h, "# nothing makes lighter"), 0);
        depths(h, 1, -1, "4442224444");
        MourningHouse feasts = father(1, "for father: black 99 days\nfeast 1.5 to lilac\nfeast 1.6 to lilac\nheir 9 days to grey", 1);
        feasts.death(0, 0);
        feasts.go(3);
        feasts.person(WOMAN, -1, 1, 3);
        feasts.go(2);
        Check.due("take", Check.take(feasts, "for father: grey 9 days\nfeast 1.7 to colours"), 1);
        depths(feasts, 1, 0, "3332130333");
        for (int day = 4; day <= 6; day++) {
            Check.due("the new law isn't known", feasts.depth(1, day, 4), day == 6 ? 2 : 1);
        }
    }

    // ---- Promise 17: last ----

    /** "The last DAY on which A MOURNS for D (AS KNOWN NOW), whatever makes lighter" */
    private static void lastDays() {
        MourningHouse h = father(1, "for father: black 3 days\nfeast 1.3 to colours\nunder 30 to colours", 1);
        h.death(0, 0);
        Check.due("depth", h.depth(1, 2, 0), 0);
        Check.due("last", h.last(1, 0), 2);
        MourningHouse once = father(1, "for father: lilac 1 days", 1);
        once.death(0, 0);
        Check.due("one day", once.last(1, 0), 0);
        MourningHouse held = father(2, "for father: black 5 days\nfor brother: grey 1 days; wait", 2);
        held.go(3);
        held.death(2, 3);
        Check.due("not yet held", held.last(1, 2), 3);
        held.death(0, 3);
        Check.due("held", held.last(1, 2), 8);
    }

    private static MourningHouse mournedFor(String length) {
        MourningHouse h = father(1, "for father: black " + length, 1);
        h.death(0, 0);
        return h;
    }

    /** "73048 if that is behind the last DAY" */
    private static void lastAtTheLastDay() {
        Check.due("199 years", mournedFor("199 years").last(1, 0), 72682);
        Check.due("to the last but one", mournedFor("199 years, grey 364 days").last(1, 0), 73046);
        Check.due("to the last day", mournedFor("199 years, grey 365 days").last(1, 0), 73047);
        Check.due("to the last day", mournedFor("200 years").last(1, 0), 73047);
        Check.due("one behind it", mournedFor("199 years, grey 366 days").last(1, 0), 73048);
        Check.due("two behind it", mournedFor("199 years, grey 367 days").last(1, 0), 73048);
        Check.due("201 years", mournedFor("201 years").last(1, 0), 73048);
        Check.due("999 years", mournedFor("999 years").last(1, 0), 73048);
        Check.due("the longest", mournedFor("999 years, grey 999 years, lilac 999 years").last(1, 0), 73048);
        Check.due("depth then", mournedFor("999 years").depth(1, 73047, 0), 3);
        Check.due("depth then", mournedFor("199 years, grey 364 days").depth(1, 73047, 0), 0);
        // One that waits for such a one.
        MourningHouse held = father(2, "for father: black 200 years\nfor brother: grey 1 days; wait", 2);
        held.death(0, 0);
        held.death(2, 0);
        Check.due("it waits to the last day", held.last(1, 2), 73048);
        // One that begins on the last day.
        MourningHouse late = father(2, "for father: black 1 days\nfor brother: black 2 days", 2);
        for (int i = 0; i < 37; i++) {
            late.go(2000);
        }
        late.death(0, 73047);
        late.death(2, 73047);
        Check.due("one day", late.last(1, 0), 73047);
        Check.due("two days", late.last(1, 2), 73048);
        depths(late, 1, 73046, "03");
    }

    /** "or it is over on the DAY on which it BEGINS" */
    private static void overOnItsFirstDay() {
        for (int wedding = 3; wedding <= 6; wedding++) {
            MourningHouse h = father(1, "for father: black 9 days\nwedding ends black", 1);
            h.person(MAN, -1, -1, -9000);
            h.go(9);
            h.death(0, 4);
            h.wed(2, 1, wedding);
            int[] want = {12, Check.NO_ANSWER, 4, 5};
            Check.due("wed on " + wedding, h.last(1, 0), want[wedding - 3]);
            Check.due("she mourns all the same", h.mourns(1, 0, 9), 0);
        }
    }

    /** "-2147483648 if A doesn't"; AS KNOWN NOW */
    private static void lastThatIsNone() {
        MourningHouse h = father(2, "for father: black 9 days", 1);
        Check.due("no death", h.last(1, 0), Check.NO_ANSWER);
        h.death(2, 0);
        Check.due("no rule", h.last(1, 2), Check.NO_ANSWER);
        h.death(0, 0);
        Check.due("the father", h.last(1, 0), 8);
        Check.due("for oneself", h.last(0, 0), Check.NO_ANSWER);
        for (int none : new int[] {-1, 3, 40, LEAST, MOST}) {
            Check.due("last(" + none + ", 0)", h.last(none, 0), Check.NO_ANSWER);
            Check.due("last(1, " + none + ")", h.last(1, none), Check.NO_ANSWER);
        }
    }

    // ---- Promise 18: edge ----

    /** "twice the DEPTH in lines"; "0 if the DEPTH is 0" */
    private static void edgeLines() {
        MourningHouse h = father(1, "for father: crape 40 days, black 40 days, grey 40 days, lilac 40 days\n"
            + "feast 1.5 to colours\nfeast 1.6 to lilac\nfeast 2.20 to colours", 1);
        h.death(0, 0);
        int[] daysAndEdges = {-1, 0, 0, 10, 4, 0, 5, 4, 39, 8, 40, 6, 50, 0, 79, 6, 80, 4, 119, 4, 120, 2, 159, 2, 160, 0};
        for (int i = 0; i < daysAndEdges.length; i += 2) {
            Check.due("edge on " + daysAndEdges[i], h.edge(1, daysAndEdges[i]), daysAndEdges[i + 1]);
        }
        Check.due("of one who mourns for nobody", h.edge(0, 0), 0);
        MourningHouse court = new MourningHouse();
        court.person(WOMAN, -1, -1, -9);
        for (int depth = 1; depth <= 4; depth++) {
            court.court(depth, 1, depth);
            Check.due("edge by order", court.edge(0, depth), depth * 2);
        }
    }

    /** "2 more on the 30 DAYS from that on which one that A MOURNS for BEGINS" */
    private static void edgeDays() {
        MourningHouse h = father(2, "for father: black 90 days\nfor brother: lilac 90 days; news", 2);
        h.death(0, 0);
        int[] daysAndEdges = {-1, 0, 0, 8, 1, 8, 28, 8, 29, 8, 30, 6, 31, 6};
        for (int i = 0; i < daysAndEdges.length; i += 2) {
            Check.due("edge on " + daysAndEdges[i], h.edge(1, daysAndEdges[i]), daysAndEdges[i + 1]);
        }
        h.go(40);
        h.death(2, 35);
        int[] then = {34, 6, 35, 6, 39, 6, 40, 8, 69, 8, 70, 6, 89, 6, 90, 2};
        for (int i = 0; i < then.length; i += 2) {
            Check.due("edge then on " + then[i], h.edge(1, then[i]), then[i + 1]);
        }
        // Two that begin in the same days make it no more.
        MourningHouse both = father(3, "for father: black 90 days\nfor sibling: lilac 90 days", 2);
        both.go(9);
        both.death(0, 0);
        both.death(2, 9);
        both.death(3, 9);
        Check.due("both", both.edge(1, 9), 8);
        Check.due("the later one", both.edge(1, 38), 8);
        Check.due("neither", both.edge(1, 39), 6);
    }

    /** "NONE if there is none such, or no DEPTH" */
    private static void edgeThatIsNone() {
        MourningHouse h = father(1, "for father: black 90 days", 1);
        h.death(0, 0);
        for (int none : new int[] {-1, 2, 40, LEAST, MOST}) {
            Check.due("edge(" + none + ", 0)", h.edge(none, 0), -1);
        }
        for (int none : new int[] {-36525, 73048, LEAST, MOST}) {
            Check.due("edge(1, " + none + ")", h.edge(1, none), -1);
        }
        Check.due("not born", h.edge(1, -5001), -1);
        Check.due("born", h.edge(1, -5000), 0);
        Check.due("the last day", h.edge(1, 73047), 0);
        Check.due("on the death", h.edge(0, 0), 0);
        Check.due("dead", h.edge(0, 1), -1);
    }

    /** As many as there may be: one who mourns for the other 39. */
    private static void fortyMourned() {
        MourningHouse h = Check.under("for sibling: lilac 2 days; wait", 1);
        h.person(MAN, -1, -1, -9000);
        for (int i = 1; i < 40; i++) {
            h.person(WOMAN, 0, -1, -5000);
        }
        h.go(60);
        for (int i = 1; i < 39; i++) {
            h.death(i, i);
        }
        Check.due("the first one's", h.last(39, 1), 2);
        Check.due("the last one's", h.last(39, 38), 39);
        depths(h, 39, 0, "01");
        depths(h, 39, 37, "11100");
        Check.due("the 40th mourns", h.mourns(39, 38, 60), 0);
        Check.due("the second one of the dead", h.last(2, 1), 2);
    }
}
