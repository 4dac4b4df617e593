/** Promises 19 to 23: what may be done, deeds and how they stand, the best day and the first one. */
public final class ActsTest {
    private static final int CALL = 0;
    private static final int DINE = 1;
    private static final int DANCE = 2;
    private static final int WED = 3;

    public static void main(String[] args) {
        allowed();
        allowedByLaws();
        deeds();
        standing();
        thenAndNow();
        hundredDeeds();
        bestDay();
        bestAmongNone();
        firstDay();
        firstFar();
        Check.done();
    }

    /** A father 0, his children 1 (a woman) and 2 (a man), and the father's death on day 0. */
    private static MourningHouse house(String text, int rules) {
        MourningHouse h = Check.under(text, rules);
        h.person(10, -1, -1, -9000);
        h.person(0, 0, -1, -5000);
        h.person(10, 0, -1, -4000);
        h.death(0, 0);
        return h;
    }

    private static void allowed() {
        MourningHouse h = house("for father: crape 10 days, black 10 days, grey 10 days, lilac 10 days\n"
            + "may call from black\nmay dine from lilac\nmay dance from crape\nmay dine from grey", 1);
        Check.no("call in crape", h.may(1, CALL, 9, 0));
        Check.yes("call in black", h.may(1, CALL, 10, 0));
        Check.no("dine in black", h.may(1, DINE, 19, 0));
        Check.yes("dine in grey", h.may(1, DINE, 20, 0));
        Check.yes("dance in crape", h.may(1, DANCE, 0, 0));
        Check.no("wed in lilac", h.may(1, WED, 39, 0));
        Check.yes("wed in colours", h.may(1, WED, 40, 0));
        Check.yes("wed ahead of it", h.may(1, WED, -1, 0));
        Check.no("the dead", h.may(0, DANCE, 1, 0));
        Check.yes("the dead on the day", h.may(0, DANCE, 0, 0));
        Check.no("not born", h.may(1, DANCE, -5001, 0));
        Check.no("no such act", h.may(1, 4, 50, 0));
        Check.no("no such act", h.may(1, -1, 50, 0));
        Check.no("none such", h.may(3, DANCE, 50, 0));
        Check.no("none such", h.may(-1, DANCE, 50, 0));
        Check.no("no such day", h.may(1, DANCE, 73048, 0));
        Check.no("no such day", h.may(1, DANCE, -36525, 0));
        Check.no("known later", h.may(1, DANCE, 0, 1));
        Check.no("known early", h.may(1, DANCE, 0, -1));
        Check.no("no such day", h.may(1, DANCE, 0, -40000));
    }

    private static void allowedByLaws() {
        MourningHouse h = new MourningHouse();
        h.person(0, -1, -1, -100);
        h.court(0, 400, 4);
        Check.yes("any without a law", h.may(0, WED, 0, 0));
        h.go(5);
        Check.due("take", Check.take(h, "may wed from crape"), 0);
        h.go(5);
        Check.due("take", Check.take(h, "may call from crape"), 0);
        Check.yes("ahead of the first law", h.may(0, CALL, 4, 10));
        Check.yes("by the first law", h.may(0, WED, 9, 10));
        Check.no("by the first law", h.may(0, CALL, 9, 10));
        Check.yes("by the second law", h.may(0, CALL, 10, 10));
        Check.no("by the second law", h.may(0, WED, 10, 10));
        Check.yes("the second one isn't known", h.may(0, WED, 10, 9));
        Check.no("the second one isn't known", h.may(0, CALL, 10, 9));
        Check.yes("none is known", h.may(0, CALL, 10, 4));
    }

    private static void deeds() {
        MourningHouse h = house("for father: crape 10 days", 1);
        Check.due("deed", h.deed(1, WED), 0);
        h.go(20);
        Check.due("deed", h.deed(2, CALL), 1);
        Check.due("no such act", h.deed(1, 4), -1);
        Check.due("no such act", h.deed(1, -1), -1);
        Check.due("none such", h.deed(3, 0), -1);
        Check.due("none such", h.deed(-1, 0), -1);
        Check.due("the dead", h.deed(0, 0), -1);
        Check.due("deeds", h.count(5), 2);
        int[] want = {1, WED, 0, 1};
        for (int what = 0; what < 4; what++) {
            Check.due("stands(0, " + what + ")", h.stands(0, what), want[what]);
        }
        int[] other = {2, CALL, 20, 0};
        for (int what = 0; what < 4; what++) {
            Check.due("stands(1, " + what + ")", h.stands(1, what), other[what]);
        }
        Check.due("others", h.stands(0, 4), -1);
        Check.due("others", h.stands(0, -1), -1);
        Check.due("none such", h.stands(2, 0), -1);
        Check.due("none such", h.stands(-1, 0), -1);
    }

    private static void standing() {
        MourningHouse h = house("for father: crape 30 days\nwedding ends crape", 1);
        h.person(10, -1, -1, -9000); // 3
        h.go(5);
        Check.due("in crape", h.deed(1, DANCE), 0);
        Check.due("wrong", h.stands(0, 3), 1);
        h.go(5);
        h.wed(1, 3, 4);
        Check.due("wrong then, right now", h.stands(0, 3), 3);
        Check.due("in colours", h.deed(1, DANCE), 1);
        Check.due("right", h.stands(1, 3), 0);
        h.person(0, 0, -1, -3000); // 4
        Check.due("a new child mourns", h.deed(4, DANCE), 2);
        Check.due("wrong, though told on the day", h.stands(2, 3), 1);
    }

    private static void thenAndNow() {
        MourningHouse h = Check.under("for father: crape 30 days", 1);
        h.person(10, -1, -1, -9000);
        h.person(0, 0, -1, -5000);
        h.go(5);
        Check.due("in colours", h.deed(1, DANCE), 0);
        Check.due("right", h.stands(0, 3), 0);
        h.go(5);
        Check.due("in colours", h.deed(1, DANCE), 1);
        h.death(0, 4);
        Check.due("right then, wrong now", h.stands(0, 3), 2);
        Check.due("what is told later on its day counts for then", h.stands(1, 3), 1);
        h.go(5);
        h.death(1, 9);
        Check.due("who was dead may not", h.stands(1, 3), 1);
        Check.due("who was alive", h.stands(0, 3), 2);
        MourningHouse gone = Check.under("", 0);
        gone.person(0, -1, -1, -5000);
        gone.go(9);
        gone.deed(0, CALL);
        gone.go(1);
        gone.death(0, 8);
        Check.due("right then, without a depth now", gone.stands(0, 3), 2);
    }

    private static void hundredDeeds() {
        MourningHouse h = new MourningHouse();
        h.person(0, -1, -1, -5000);
        for (int i = 0; i < 100; i++) {
            Check.due("deed", h.deed(0, i % 4), i);
        }
        Check.due("one more", h.deed(0, 0), -1);
        Check.due("deeds", h.count(5), 100);
        Check.due("the last one's act", h.stands(99, 1), 3);
    }

    private static void bestDay() {
        MourningHouse h = house("for father: crape 10 days; men half\nmay call from colours", 1);
        Check.due("both", h.best(CALL, 0, 20, 0), 10);
        Check.due("both", h.best(CALL, 0, 20, 1), 2);
        Check.due("three, ahead of the death", h.best(CALL, -5, 20, 0), -5);
        Check.due("three, ahead of the death", h.best(CALL, -5, 20, 1), 3);
        Check.due("one", h.best(CALL, 1, 9, 0), 5);
        Check.due("one", h.best(CALL, 1, 9, 1), 1);
        Check.due("none", h.best(CALL, 1, 4, 0), 1);
        Check.due("none", h.best(CALL, 1, 4, 1), 0);
        Check.due("one day", h.best(CALL, 7, 7, 0), 7);
        Check.due("sixty days", h.best(CALL, 1, 60, 0), 10);
        Check.due("sixty-one", h.best(CALL, 1, 61, 0), Check.NO_ANSWER);
        Check.due("no day", h.best(CALL, 1, 0, 0), Check.NO_ANSWER);
        Check.due("no such act", h.best(4, 1, 9, 0), Check.NO_ANSWER);
        Check.due("no such act", h.best(-1, 1, 9, 0), Check.NO_ANSWER);
        Check.due("others", h.best(CALL, 1, 9, 2), Check.NO_ANSWER);
        Check.due("others", h.best(CALL, 1, 9, -1), Check.NO_ANSWER);
        Check.due("no such day", h.best(CALL, -36525, -36520, 0), Check.NO_ANSWER);
        Check.due("no such day", h.best(CALL, 73040, 73048, 0), Check.NO_ANSWER);
        Check.due("last days", h.best(CALL, 72988, 73047, 0), 72988);
        Check.due("far apart", h.best(CALL, Integer.MIN_VALUE, Integer.MAX_VALUE, 0), Check.NO_ANSWER);
        h.go(3);
        h.person(0, 0, -1, 3); // 3
        Check.due("by what is known now", h.best(CALL, 4, 20, 0), 13);
        Check.due("by what is known now", h.best(CALL, 4, 20, 1), 3);
    }

    private static void bestAmongNone() {
        MourningHouse h = new MourningHouse();
        Check.due("nobody there", h.best(CALL, 5, 9, 0), 5);
        Check.due("nobody there", h.best(CALL, 5, 9, 1), 0);
    }

    private static void firstDay() {
        MourningHouse h = house("for father: crape 10 days, grey 10 days\nmay dine from grey\nfeast 1.6 to lilac\nfeast 1.7 to colours", 1);
        Check.due("ahead of it", h.first(1, CALL, -4), -4);
        Check.due("the feast", h.first(1, CALL, 0), 6);
        Check.due("dining on a feast", h.first(1, DINE, 0), 5);
        Check.due("behind the feast", h.first(1, DINE, 7), 10);
        Check.due("behind all", h.first(1, CALL, 7), 20);
        Check.due("not born yet", h.first(1, CALL, -5010), -5000);
        Check.due("the dead", h.first(0, CALL, 1), Check.NO_ANSWER);
        Check.due("no such act", h.first(1, 4, 0), Check.NO_ANSWER);
        Check.due("no such act", h.first(1, -1, 0), Check.NO_ANSWER);
        Check.due("none such", h.first(3, 0, 0), Check.NO_ANSWER);
        Check.due("none such", h.first(-1, 0, 0), Check.NO_ANSWER);
        Check.due("no such day", h.first(1, 0, -36525), Check.NO_ANSWER);
        Check.due("no such day", h.first(1, 0, 73048), Check.NO_ANSWER);
        Check.due("the last day", h.first(1, 0, 73047), 73047);
    }

    private static void firstFar() {
        MourningHouse h = new MourningHouse();
        h.person(0, -1, -1, -5000);
        Check.due("3000 days later", h.first(0, CALL, -8000), -5000);
        Check.due("3001 days later", h.first(0, CALL, -8001), Check.NO_ANSWER);
        MourningHouse last = house("for father: crape 200 years", 1);
        Check.due("no day behind the last", last.first(1, CALL, 73000), Check.NO_ANSWER);
        MourningHouse half = house("for father: crape 199 years, lilac 364 days", 1);
        Check.due("the last day", half.first(1, CALL, 73000), 73047);
    }
}
