/** The boundary cases of promises 19 to 23 and of the terms' part 5: a sentence, a test. */
public final class ActsEdgesTest {
    private static final int LEAST = Integer.MIN_VALUE;
    private static final int MOST = Integer.MAX_VALUE;
    private static final String[] STUFFS = {"colours", "lilac", "grey", "black", "crape"};
    private static final String[] ACTS = {"call", "dine", "dance", "wed"};

    public static void main(String[] args) {
        notAboveTheStuff();
        eachActItsOwn();
        notTold();
        noLaw();
        lawOfTheDay();
        withoutDepth();
        mayThatIsNone();
        deedsNow();
        deedsThatAreNone();
        hundredDeeds();
        fourWaysToStand();
        toldLaterOnItsDay();
        standsThatAreNone();
        mostPeople();
        firstOfLikeOnes();
        oneToSixtyDays();
        bestAsKnownNow();
        bestThatIsNone();
        fortyMay();
        firstFromTheDayOn();
        threeThousandDays();
        firstToTheLastDay();
        firstThatIsNone();
        Check.done();
    }

    /** A father 0 who died on day 0, and his daughter 1. */
    private static MourningHouse father(String text) {
        MourningHouse h = Check.under(text, 1);
        h.person(10, -1, -1, -9000);
        h.person(0, 0, -1, -5000);
        Check.yes("death", h.death(0, 0));
        return h;
    }

    // ---- Promise 19: may ----

    /** "if the DEPTH isn't above S of may" */
    private static void notAboveTheStuff() {
        for (int s = 0; s <= 4; s++) {
            for (int act = 0; act < 4; act++) {
                MourningHouse h = father("for father: crape 1 days, black 1 days, grey 1 days, lilac 1 days\nmay "
                    + ACTS[act] + " from " + STUFFS[s]);
                for (int depth = 0; depth <= 4; depth++) {
                    Check.due(ACTS[act] + " from " + STUFFS[s] + " in " + STUFFS[depth],
                        h.may(1, act, 4 - depth, 0) ? 1 : 0, depth <= s ? 1 : 0);
                }
            }
        }
    }

    private static void eachActItsOwn() {
        MourningHouse h = father("for father: crape 1 days, black 1 days, grey 1 days, lilac 1 days\nmay wed from lilac\n"
            + "may call from crape\nmay dance from grey\nmay dine from black");
        for (int act = 0; act < 4; act++) {
            for (int depth = 0; depth <= 4; depth++) {
                Check.due(ACTS[act] + " in " + STUFFS[depth], h.may(1, act, 4 - depth, 0) ? 1 : 0, depth <= 4 - act ? 1 : 0);
            }
        }
    }

    /** "0, if it isn't told" */
    private static void notTold() {
        MourningHouse h = father("for father: lilac 1 days\nmay call from crape");
        for (int act = 0; act < 4; act++) {
            Check.due(ACTS[act] + " in lilac", h.may(1, act, 0, 0) ? 1 : 0, act == 0 ? 1 : 0);
            Check.yes(ACTS[act] + " in colours", h.may(1, act, 1, 0));
        }
    }

    /** "any, if there is no LAW" */
    private static void noLaw() {
        MourningHouse h = new MourningHouse();
        h.person(0, -1, -1, -9);
        h.court(-9, 20, 4);
        for (int act = 0; act < 4; act++) {
            Check.yes(ACTS[act] + " in crape", h.may(0, act, 0, 0));
            Check.yes(ACTS[act] + " in colours", h.may(0, act, 20, 0));
            Check.no(ACTS[act] + " ahead of the birth", h.may(0, act, -10, 0));
        }
    }

    /** "(THE LAW of the DAY ...)", as known */
    private static void lawOfTheDay() {
        MourningHouse h = new MourningHouse();
        h.person(0, -1, -1, -9);
        h.court(-9, 200, 2);
        h.go(3);
        Check.due("take", Check.take(h, "may call from grey"), 0);
        h.go(3);
        Check.due("take", Check.take(h, "may dine from grey"), 0);
        h.go(3);
        for (int day = 0; day < 9; day++) {
            Check.due("call on " + day, h.may(0, 0, day, 9) ? 1 : 0, day < 6 ? 1 : 0);
            Check.due("dine on " + day, h.may(0, 1, day, 9) ? 1 : 0, day < 3 || day >= 6 ? 1 : 0);
            Check.due("dance on " + day, h.may(0, 2, day, 9) ? 1 : 0, day < 3 ? 1 : 0);
            Check.yes("call on " + day + " by the first law", h.may(0, 0, day, 5));
            Check.due("dine on " + day + " by the first law", h.may(0, 1, day, 5) ? 1 : 0, day < 3 ? 1 : 0);
            Check.yes("dance on " + day + " without a law", h.may(0, 2, day, 2));
        }
    }

    /** "without a DEPTH it may not" */
    private static void withoutDepth() {
        MourningHouse h = father("for father: lilac 1 days\nmay call from crape");
        Check.no("not born", h.may(1, 0, -5001, 0));
        Check.yes("born", h.may(1, 0, -5000, 0));
        Check.yes("on the day of the death", h.may(0, 0, 0, 0));
        Check.no("dead", h.may(0, 0, 1, 0));
        h.go(3);
        h.person(0, -1, -1, -9);
        Check.no("not known", h.may(2, 0, 1, 2));
        Check.yes("known", h.may(2, 0, 1, 3));
    }

    /** "false if there is none such" */
    private static void mayThatIsNone() {
        MourningHouse h = father("for father: lilac 1 days");
        Check.yes("may", h.may(1, 0, 1, 0));
        for (int none : new int[] {-1, 2, 40, LEAST, MOST}) {
            Check.no("person " + none, h.may(none, 0, 1, 0));
        }
        for (int none : new int[] {-1, 4, 5, LEAST, MOST}) {
            Check.no("act " + none, h.may(1, none, 1, 0));
        }
        for (int none : new int[] {-36525, 73048, LEAST, MOST}) {
            Check.no("day " + none, h.may(1, 0, none, 0));
            Check.no("known on " + none, h.may(1, 0, 1, none));
        }
        Check.yes("the last day", h.may(1, 3, 73047, 0));
        MourningHouse first = new MourningHouse();
        first.person(0, -1, -1, -36524);
        Check.yes("the first day", first.may(0, 3, -36524, 0));
    }

    // ---- Promises 20 and 21: deed and stands ----

    /** "A DEED NOW: its number" */
    private static void deedsNow() {
        MourningHouse h = father("for father: lilac 5 days");
        for (int i = 0; i < 8; i++) {
            Check.due("deeds", h.count(5), i);
            Check.due("deed", h.deed(1, i % 4), i);
            h.go(1);
        }
        for (int i = 0; i < 8; i++) {
            Check.due("who", h.stands(i, 0), 1);
            Check.due("act", h.stands(i, 1), i % 4);
            Check.due("day", h.stands(i, 2), i);
            Check.due("how", h.stands(i, 3), i < 5 ? 1 : 0);
        }
    }

    /** "NONE if there is none such ACT, A has no DEPTH" */
    private static void deedsThatAreNone() {
        MourningHouse h = father("for father: lilac 5 days");
        for (int none : new int[] {-1, 4, 5, LEAST, MOST}) {
            Check.due("act " + none, h.deed(1, none), -1);
        }
        for (int none : new int[] {-1, 2, 40, LEAST, MOST}) {
            Check.due("person " + none, h.deed(none, 0), -1);
        }
        Check.due("deeds", h.count(5), 0);
        Check.due("on the day of the death", h.deed(0, 3), 0);
        h.go(1);
        Check.due("dead", h.deed(0, 3), -1);
        Check.due("deeds", h.count(5), 1);
        Check.due("born today", h.person(0, -1, -1, 1), 2);
        Check.due("on the day of the birth", h.deed(2, 0), 1);
    }

    /** "DEEDS (at most 100)"; "or 100 came" */
    private static void hundredDeeds() {
        MourningHouse h = new MourningHouse();
        h.person(0, -1, -1, -9);
        h.person(10, -1, -1, -9);
        for (int i = 0; i < 99; i++) {
            Check.due("deed", h.deed(0, 0), i);
        }
        h.go(5);
        Check.due("the 100th", h.deed(1, 3), 99);
        Check.due("a 101st", h.deed(0, 0), -1);
        Check.due("deeds", h.count(5), 100);
        int[] want = {1, 3, 5, 0};
        for (int what = 0; what < 4; what++) {
            Check.due("of the 100th", h.stands(99, what), want[what]);
            Check.due("of no 101st", h.stands(100, what), -1);
        }
        Check.due("the 99th", h.stands(98, 2), 0);
    }

    /** "(0) RIGHT then and NOW, (1) WRONG then and NOW, (2) RIGHT then, WRONG NOW, (3) WRONG then, RIGHT NOW" */
    private static void fourWaysToStand() {
        MourningHouse h = Check.under("for father: grey 9 days\nfor brother: grey 9 days\nmay call from lilac\nwedding ends grey", 2);
        h.person(10, -1, -1, -9000);
        h.person(0, 0, -1, -5000);
        h.person(10, 0, -1, -5000);
        h.person(10, -1, -1, -5000);
        Check.due("in colours", h.deed(1, 0), 0);
        h.go(1);
        h.death(0, 1);
        Check.due("in grey", h.deed(1, 0), 1);
        h.go(3);
        Check.due("in grey", h.deed(1, 0), 2);
        h.go(9);
        Check.due("in colours", h.deed(1, 0), 3);
        int[] atFirst = {0, 1, 1, 0};
        for (int i = 0; i < 4; i++) {
            Check.due("deed " + i, h.stands(i, 3), atFirst[i]);
        }
        // A wedding that was none of these days' news ends the father's, and a brother's death begins.
        h.wed(1, 3, 3);
        h.death(2, 12);
        int[] then = {0, 1, 3, 1};
        for (int i = 0; i < 4; i++) {
            Check.due("deed " + i + " with the news", h.stands(i, 3), then[i]);
        }
        h.go(1);
        Check.due("by what was told on its own day", h.stands(3, 3), 1);
        Check.due("deed", h.deed(2, 0), -1);
        MourningHouse late = father("for father: grey 9 days\nmay call from lilac");
        late.person(10, -1, -1, -9000);
        late.person(0, 2, -1, -5000);
        Check.due("in colours", late.deed(3, 0), 0);
        late.go(1);
        late.death(2, 0);
        Check.due("right then, wrong now", late.stands(0, 3), 2);
        late.death(3, 0);
        Check.due("right then, wrong now", late.stands(0, 3), 2);
    }

    /** "(What was told later on its own DAY counts for then, too.)" */
    private static void toldLaterOnItsDay() {
        MourningHouse h = Check.under("for father: grey 9 days", 1);
        h.person(10, -1, -1, -9000);
        h.person(0, 0, -1, -5000);
        Check.due("deed", h.deed(1, 0), 0);
        Check.due("right", h.stands(0, 3), 0);
        h.death(0, 0);
        Check.due("wrong then, too", h.stands(0, 3), 1);
        Check.due("take", Check.take(h, "may call from grey"), 0);
        Check.due("right then, too", h.stands(0, 3), 0);
        h.court(0, 1, 4);
        Check.due("wrong then, too", h.stands(0, 3), 1);
        h.go(1);
        h.court(0, 1, 4);
        Check.due("still", h.stands(0, 3), 1);
    }

    /** "NONE for others, or if there is none such" */
    private static void standsThatAreNone() {
        MourningHouse h = new MourningHouse();
        h.person(0, -1, -1, -9);
        Check.due("none yet", h.stands(0, 0), -1);
        h.deed(0, 2);
        for (int none : new int[] {-1, 1, 100, LEAST, MOST}) {
            for (int what = 0; what < 4; what++) {
                Check.due("stands(" + none + ", " + what + ")", h.stands(none, what), -1);
            }
        }
        for (int other : new int[] {-1, 4, 5, LEAST, MOST}) {
            Check.due("stands(0, " + other + ")", h.stands(0, other), -1);
        }
        Check.due("the act", h.stands(0, 1), 2);
    }

    // ---- Promise 22: best ----

    /** "the DAY on which most PEOPLE MAY" */
    private static void mostPeople() {
        MourningHouse h = Check.under("for father: grey 6 days; men half\nfor brother: lilac 3 days", 2);
        h.person(10, -1, -1, -9000);
        h.person(0, 0, -1, -5000);
        h.person(10, 0, -1, -5000);
        h.person(10, 0, -1, -5000);
        h.go(1);
        h.death(0, 1);
        // All four on day 0, none on days 1 to 3 (but for the father on his), the sons on 4, all three from 7 on.
        int[][] fromToDayCount = {{0, 9, 0, 4}, {1, 9, 7, 3}, {1, 6, 4, 2}, {1, 3, 1, 1}, {2, 3, 2, 0}, {3, 4, 4, 2}, {6, 7, 7, 3},
            {4, 7, 7, 3}, {0, 0, 0, 4}, {1, 1, 1, 1}, {7, 7, 7, 3}, {-1, 0, -1, 4}, {-5001, -5000, -5000, 4}};
        for (int[] f : fromToDayCount) {
            Check.due("best day of " + f[0] + " .. " + f[1], h.best(0, f[0], f[1], 0), f[2]);
            Check.due("how many of " + f[0] + " .. " + f[1], h.best(0, f[0], f[1], 1), f[3]);
        }
        MourningHouse acts = father("for father: crape 1 days, black 1 days, grey 1 days, lilac 1 days\nmay wed from lilac\n"
            + "may call from crape\nmay dance from grey\nmay dine from black");
        acts.person(10, -1, -1, -9000);
        for (int act = 0; act < 4; act++) {
            Check.due("best day to " + ACTS[act], acts.best(act, 1, 9, 0), Math.max(act, 1));
            Check.due("how many " + ACTS[act], acts.best(act, 1, 9, 1), 2);
        }
    }

    /** "of like ones the first" */
    private static void firstOfLikeOnes() {
        MourningHouse h = father("for father: grey 30 days\nfeast 1.9 to colours\nfeast 1.12 to colours\nfeast 1.10 to colours");
        Check.due("the first feast", h.best(0, 1, 29, 0), 8);
        Check.due("the next feast", h.best(0, 9, 29, 0), 9);
        Check.due("the last feast", h.best(0, 10, 29, 0), 11);
        Check.due("none of all", h.best(0, 12, 29, 0), 12);
        Check.due("none of all", h.best(0, 12, 29, 1), 0);
        Check.due("behind all", h.best(0, 12, 30, 0), 30);
        Check.due("behind all", h.best(0, 12, 40, 0), 30);
        MourningHouse nobody = new MourningHouse();
        Check.due("nobody", nobody.best(3, -5, 5, 0), -5);
        Check.due("nobody", nobody.best(3, -5, 5, 1), 0);
    }

    /** "from .. to isn't 1 to 60 DAYS that there are" */
    private static void oneToSixtyDays() {
        MourningHouse h = father("for father: grey 60 days");
        h.person(0, -1, -1, -36524);
        int[][] fromToDay = {{1, 1, 1}, {1, 59, 1}, {1, 60, 60}, {1, 61, Check.NO_ANSWER}, {2, 61, 60}, {1, 0, Check.NO_ANSWER},
            {60, 59, Check.NO_ANSWER}, {60, 1, Check.NO_ANSWER}, {-36524, -36524, -36524}, {-36524, -36465, -36524},
            {-36524, -36464, Check.NO_ANSWER}, {-36525, -36524, Check.NO_ANSWER}, {-36525, -36525, Check.NO_ANSWER},
            {73047, 73047, 73047}, {72988, 73047, 72988}, {72987, 73047, Check.NO_ANSWER}, {73047, 73048, Check.NO_ANSWER},
            {73048, 73048, Check.NO_ANSWER}, {LEAST, LEAST, Check.NO_ANSWER}, {MOST, MOST, Check.NO_ANSWER},
            {LEAST, MOST, Check.NO_ANSWER}, {MOST, LEAST, Check.NO_ANSWER}, {0, MOST, Check.NO_ANSWER}, {LEAST, 0, Check.NO_ANSWER}};
        for (int[] f : fromToDay) {
            Check.due("best day of " + f[0] + " .. " + f[1], h.best(2, f[0], f[1], 0), f[2]);
            boolean none = f[2] == Check.NO_ANSWER;
            int count = f[2] < -5000 || f[2] > 0 && f[2] < 60 ? 1 : 2;
            Check.due("how many of " + f[0] + " .. " + f[1], h.best(2, f[0], f[1], 1), none ? Check.NO_ANSWER : count);
        }
    }

    /** "(AS KNOWN NOW)" */
    private static void bestAsKnownNow() {
        MourningHouse h = father("for father: grey 9 days");
        Check.due("by one death", h.best(0, 1, 20, 0), 9);
        h.go(5);
        h.person(0, 0, -1, 3);
        h.person(10, -1, -1, -5000);
        Check.due("one may", h.best(0, 1, 20, 1), 3);
        Check.due("on the first day for all three", h.best(0, 1, 20, 0), 12);
        h.death(3, 11);
        Check.due("not yet", h.best(0, 1, 20, 0), 12);
        h.go(9);
        h.death(3, 11);
        Check.due("two are left", h.best(0, 1, 20, 0), 9);
        Check.due("two are left", h.best(0, 1, 20, 1), 2);
    }

    /** "-2147483648 if there is no such ACT, ..., or of others" */
    private static void bestThatIsNone() {
        MourningHouse h = father("for father: grey 9 days");
        for (int none : new int[] {-1, 4, 5, LEAST, MOST}) {
            for (int what = 0; what < 2; what++) {
                Check.due("act " + none, h.best(none, 1, 9, what), Check.NO_ANSWER);
            }
        }
        for (int other : new int[] {-1, 2, 3, LEAST, MOST}) {
            Check.due("what " + other, h.best(0, 1, 9, other), Check.NO_ANSWER);
        }
    }

    private static void fortyMay() {
        MourningHouse h = new MourningHouse();
        for (int i = 0; i < 40; i++) {
            h.person(0, -1, -1, -39 + i);
        }
        Check.due("all forty", h.best(0, -59, 0, 0), 0);
        Check.due("all forty", h.best(0, -59, 0, 1), 40);
        Check.due("all but one", h.best(0, -59, -1, 1), 39);
        Check.due("none", h.best(0, -60, -40, 1), 0);
    }

    // ---- Promise 23: first ----

    /** "the first DAY from a DAY on ... on which A MAY" */
    private static void firstFromTheDayOn() {
        MourningHouse h = father("for father: black 9 days, lilac 9 days\nmay dine from lilac\nmay wed from black\nfeast 1.5 to colours");
        int[][] actFromDay = {{0, -1, -1}, {0, 0, 4}, {0, 4, 4}, {0, 5, 18}, {0, 17, 18}, {0, 18, 18}, {0, 19, 19},
            {1, 0, 4}, {1, 5, 9}, {1, 9, 9}, {3, 0, 0}, {3, 5, 5}, {2, 5, 18}, {0, -5001, -5000}};
        for (int[] a : actFromDay) {
            Check.due("first " + ACTS[a[0]] + " from " + a[1], h.first(1, a[0], a[1]), a[2]);
        }
        Check.due("on the day of the death", h.first(0, 0, 0), 0);
        Check.due("dead", h.first(0, 0, 1), Check.NO_ANSWER);
    }

    /** "up to 3000 DAYS later" */
    private static void threeThousandDays() {
        for (int days : new int[] {2999, 3000, 3001}) {
            MourningHouse h = father("for father: black 999 days, grey 999 days, lilac " + (days - 1998) / 2 + " days");
            int over = 1998 + (days - 1998) / 2;
            Check.due("all but", h.first(1, 0, 0), over);
            MourningHouse long1 = father("for father: black 428 weeks, lilac " + (days - 2996) + " days");
            Check.due(days + " days later", long1.first(1, 0, 0), days <= 3000 ? days : Check.NO_ANSWER);
            Check.due("from the day behind", long1.first(1, 0, 1), days);
            MourningHouse born = new MourningHouse();
            born.person(0, -1, -1, 0);
            Check.due("born " + days + " days later", born.first(0, 0, -days), days <= 3000 ? 0 : Check.NO_ANSWER);
        }
    }

    private static void firstToTheLastDay() {
        MourningHouse h = new MourningHouse();
        h.person(0, -1, -1, -36524);
        Check.due("the first day", h.first(0, 0, -36524), -36524);
        Check.due("the last day", h.first(0, 0, 73047), 73047);
        Check.due("take", Check.take(h, "may dine from crape"), 0);
        h.court(72648, 400, 1);
        for (int from : new int[] {72648, 73000, 73047}) {
            Check.due("no day behind the last", h.first(0, 0, from), Check.NO_ANSWER);
            Check.due("dine", h.first(0, 1, from), from);
        }
        MourningHouse one = Check.under("# nothing", 0);
        one.person(0, -1, -1, -36524);
        one.court(72647, 400, 1);
        for (int from : new int[] {72647, 73000, 73046, 73047}) {
            Check.due("the last day from " + from, one.first(0, 0, from), 73047);
        }
    }

    /** "-2147483648 if there is none, or none such" */
    private static void firstThatIsNone() {
        MourningHouse h = father("for father: grey 9 days");
        for (int none : new int[] {-1, 2, 40, LEAST, MOST}) {
            Check.due("person " + none, h.first(none, 0, 9), Check.NO_ANSWER);
        }
        for (int none : new int[] {-1, 4, 5, LEAST, MOST}) {
            Check.due("act " + none, h.first(1, none, 9), Check.NO_ANSWER);
        }
        for (int none : new int[] {-36525, 73048, LEAST, MOST}) {
            Check.due("day " + none, h.first(1, 0, none), Check.NO_ANSWER);
        }
        Check.due("first", h.first(1, 0, 9), 9);
    }
}
