/** Promises 15 to 18: who mourns for whom, depths, last days, edges. */
public final class MourningTest {
    private static final int MAN = 10;
    private static final int WOMAN = 0;

    public static void main(String[] args) {
        nearestRule();
        lawOfTheDeath();
        knownThings();
        begins();
        lengths();
        halves();
        besideOneAnother();
        waiting();
        weddings();
        weddingsByLaw();
        feasts();
        heirs();
        young();
        courts();
        withoutDepth();
        lawsByDays();
        lasts();
        edges();
        refusals();
        Check.done();
    }

    private static void depths(MourningHouse h, int a, int known, int... dayAndDepth) {
        for (int i = 0; i + 1 < dayAndDepth.length; i += 2) {
            Check.due("depth(" + a + ", " + dayAndDepth[i] + ", " + known + ")", h.depth(a, dayAndDepth[i], known), dayAndDepth[i + 1]);
        }
    }

    /** A father 0 (born -9000) with children: as many as told, by turns a daughter and a son. */
    private static MourningHouse fatherAnd(int children, String text, int rules) {
        MourningHouse h = Check.under(text, rules);
        Check.due("father", h.person(MAN, -1, -1, -9000), 0);
        for (int i = 1; i <= children; i++) {
            Check.due("child", h.person(i % 2 == 1 ? WOMAN : MAN, 0, -1, -5000 + i), i);
        }
        return h;
    }

    private static void nearestRule() {
        MourningHouse h = fatherAnd(2, "for child of father: black 1 days\nfor sibling: black 2 days\n"
            + "for brother: black 3 days\nfor son of parent: black 4 days\nfor son: black 5 days", 5);
        Check.yes("death", h.death(2, 0));
        Check.due("the last one of the nearest", h.mourns(1, 2, 0), 2);
        Check.due("the father's", h.mourns(0, 2, 0), 4);
        Check.due("nobody for oneself", h.mourns(2, 2, 0), -1);
        Check.due("not for the living", h.mourns(2, 1, 0), -1);
        Check.due("by its length", h.last(1, 2), 2);
        MourningHouse far = fatherAnd(2, "for child of father: black 1 days\nfor son of parent: black 4 days", 2);
        far.death(2, 0);
        Check.due("the last one of like ones", far.mourns(1, 2, 0), 1);
        MourningHouse four = fatherAnd(2, "for son of parent of parent of child: black 1 days\nfor sibling of sibling: black 1 days", 2);
        four.death(2, 0);
        Check.due("not by way of the mourner", four.mourns(1, 2, 0), -1);
        four.person(WOMAN, 0, -1, -100);
        Check.due("by way of another", four.mourns(1, 2, 0), 1);
    }

    private static void lawOfTheDeath() {
        MourningHouse h = new MourningHouse();
        h.person(MAN, -1, -1, -9000);
        h.person(WOMAN, 0, -1, -5000);
        h.person(WOMAN, 0, -1, -5000);
        h.go(10);
        Check.due("take", Check.take(h, "for father: black 30 days"), 1);
        Check.due("take", Check.take(h, "for sibling: black 30 days\nfor father: grey 30 days"), 2);
        h.go(10);
        Check.due("take", Check.take(h, "for father: lilac 30 days"), 1);
        h.death(0, 19);
        Check.due("by the latest law of the day", h.mourns(1, 0, 20), 1);
        depths(h, 1, 20, 18, 0, 19, 2, 48, 2, 49, 0);
        h.death(2, 9);
        Check.due("ahead of the first law", h.mourns(1, 2, 20), -1);
        h.person(MAN, -1, -1, -9000);
        h.person(WOMAN, 3, -1, -5000);
        h.death(3, 20);
        Check.due("by the law of its own day", h.mourns(4, 3, 20), 0);
        depths(h, 4, 20, 20, 1);
        MourningHouse late = new MourningHouse();
        late.person(MAN, -1, -1, -9000);
        late.person(WOMAN, 0, -1, -5000);
        late.death(0, 0);
        Check.due("without a law", late.mourns(1, 0, 0), -1);
        Check.due("take", Check.take(late, "for father: black 30 days"), 1);
        Check.due("by a law taken later on the day", late.mourns(1, 0, 0), 0);
    }

    private static void knownThings() {
        MourningHouse h = Check.under("for wife: crape 100 days\nfor sister of wife: grey 50 days\nfor mother: black 20 days", 3);
        h.person(MAN, -1, -1, -9000);   // 0
        h.person(WOMAN, -1, -1, -9000); // 1
        h.go(10);
        h.death(1, 5);
        h.go(10);
        h.wed(0, 1, 5);
        Check.due("the wedding isn't known", h.mourns(0, 1, 19), -1);
        Check.due("it is known", h.mourns(0, 1, 20), 0);
        Check.due("the death isn't known", h.mourns(0, 1, 9), -1);
        depths(h, 0, 19, 5, 0, 20, 0);
        depths(h, 0, 20, 4, 0, 5, 4, 20, 4, 104, 4, 105, 0);
        h.person(WOMAN, -1, -1, -9000); // 2
        h.wed(0, 2, 6);
        h.go(5);
        h.person(WOMAN, -1, 2, -100);   // 3, known from 25 on
        h.death(2, 6);
        Check.due("a daughter, as known", h.mourns(3, 2, 25), 2);
        h.go(5);
        Check.due("she wasn't known", h.mourns(3, 2, 24), -1);
        Check.due("nor was the death", h.mourns(0, 2, 24), -1);
        Check.due("the wedding is on the death's day", h.mourns(0, 2, 25), 0);
        Check.due("she isn't known", h.depth(3, 20, 24), -1);
        Check.due("she is known", h.depth(3, 20, 25), 3);
        MourningHouse behind = Check.under("for wife: crape 100 days", 1);
        behind.person(MAN, -1, -1, -9000);
        behind.person(WOMAN, -1, -1, -9000);
        behind.go(9);
        behind.death(1, 3);
        behind.wed(0, 1, 4);
        Check.due("a wedding behind the death", behind.mourns(0, 1, 9), -1);
    }

    private static void begins() {
        MourningHouse h = fatherAnd(2, "for father: black 10 days; news\nfor brother: grey 10 days", 2);
        h.go(20);
        h.death(0, 5);
        depths(h, 1, 20, 5, 0, 19, 0, 20, 3, 29, 3, 30, 0);
        h.death(2, 12);
        depths(h, 1, 20, 11, 0, 12, 2, 21, 3, 30, 0);
        // Not ahead of the birth.
        h.go(20);
        Check.due("born later", h.person(WOMAN, 0, -1, 15), 3);
        Check.due("born later", h.person(WOMAN, 0, -1, 30), 4);
        depths(h, 3, 40, 14, -1, 15, 2, 20, 3, 24, 3, 25, 3, 29, 3, 30, 0);
        depths(h, 4, 40, 29, -1, 30, 3, 39, 3, 40, 0);
        Check.due("the brother's from the birth on", h.last(3, 2), 24);
        Check.due("the brother's from the birth on", h.last(4, 2), 39);
    }

    private static void lengths() {
        MourningHouse h = new MourningHouse();
        h.go(30); // the 31st of January 1800
        Check.due("take", Check.take(h, "for father: crape 1 months, black 2 weeks, grey 1 years, lilac 3 days\nfor son: black 1 years"), 2);
        h.person(MAN, -1, -1, -9000);
        h.person(WOMAN, 0, -1, -5000);
        h.person(MAN, 0, -1, -5000);
        h.death(0, 30);
        int black = h.day(18000228);
        int grey = black + 14;
        int lilac = h.day(18010314);
        for (int a = 1; a <= 2; a++) {
            depths(h, a, 30, 29, 0, 30, 4, black - 1, 4, black, 3, grey - 1, 3, grey, 2, lilac - 1, 2,
                lilac, 1, lilac + 2, 1, lilac + 3, 0);
            Check.due("last", h.last(a, 0), lilac + 2);
        }
        MourningHouse leap = Check.under("for father: black 1 years, grey 1 years", 1);
        leap.go(1519); // the 29th of February 1804
        leap.person(MAN, -1, -1, -9000);
        leap.person(WOMAN, 0, -1, -5000);
        leap.death(0, 1519);
        int second = leap.day(18050228);
        depths(leap, 1, 1519, second - 1, 3, second, 2, second + 364, 2, second + 365, 0);
        Check.due("last", leap.last(1, 0), leap.day(18060227));
    }

    private static void halves() {
        // 31 whole days, then 28: the man's are 16 and 14; then 5 days: 3.
        MourningHouse h = fatherAnd(2, "for father: crape 1 months, black 28 days, grey 5 days, lilac 1 days; men half", 1);
        h.death(0, 0);
        depths(h, 1, 0, 30, 4, 31, 3, 58, 3, 59, 2, 63, 2, 64, 1, 65, 0);
        depths(h, 2, 0, 15, 4, 16, 3, 29, 3, 30, 2, 32, 2, 33, 1, 34, 0);
        // Its second month is February's, though his first one is over on the 16th of January.
        MourningHouse months = fatherAnd(2, "for father: crape 1 months, black 1 months; men half", 1);
        months.death(0, 0);
        Check.due("hers", months.last(1, 0), 58);
        Check.due("his", months.last(2, 0), 15 + 14);
        MourningHouse whole = fatherAnd(2, "for father: crape 9 days", 1);
        whole.death(0, 0);
        Check.due("his without half", whole.last(2, 0), 8);
    }

    private static void besideOneAnother() {
        MourningHouse h = fatherAnd(4, "for father: crape 10 days, lilac 10 days\nfor brother: grey 30 days", 2);
        h.go(5);
        h.death(0, 5);
        h.death(2, 3);
        depths(h, 1, 5, 2, 0, 3, 2, 4, 2, 5, 4, 14, 4, 15, 2, 24, 2, 25, 2, 32, 2, 33, 0);
        Check.due("the father's", h.last(1, 0), 24);
        Check.due("the brother's", h.last(1, 2), 32);
    }

    private static void waiting() {
        String text = "for father: black 10 days, grey 5 days\nfor brother: grey 6 days, lilac 4 days; wait\n"
            + "for sister: grey 3 days; wait";
        MourningHouse h = fatherAnd(4, text, 3);
        h.death(0, 0);
        h.death(2, 0);
        // The brother's grey waits for ten days of black, then runs beside grey; its lilac is the deepest then.
        depths(h, 1, 0, 0, 3, 9, 3, 10, 2, 15, 2, 16, 1, 19, 1, 20, 0);
        Check.due("the brother's", h.last(1, 2), 19);
        MourningHouse both = fatherAnd(5, text, 3);
        both.death(2, 0);
        both.death(3, 0);
        // Both wait for one another, but are alike deep.
        Check.due("the sister's", both.last(1, 3), 2);
        Check.due("the brother's", both.last(1, 2), 9);
        both.death(5, 0);
        both.go(4);
        both.death(0, 4);
        // 4 days of grey have gone by; black runs from 4 to 13, and the rest waits.
        depths(both, 1, 4, 3, 2, 4, 3, 13, 3, 14, 2, 18, 2, 19, 1);
        // Its sixth day of grey is the 15th; lilac waits for the father's grey of 14 .. 18.
        Check.due("the brother's", both.last(1, 2), 22);
        Check.due("as it was known", both.depth(1, 7, 3), 1);
        // One that begins while another is deeper.
        MourningHouse late = fatherAnd(4, text, 3);
        late.death(0, 0);
        late.go(12);
        late.death(2, 9);
        depths(late, 1, 12, 9, 3, 10, 2, 14, 2, 15, 2, 16, 1);
        Check.due("the brother's", late.last(1, 2), 19);
    }

    private static void weddings() {
        MourningHouse h = fatherAnd(3, "for father: crape 10 days, grey 10 days\nfor brother: lilac 30 days\n"
            + "for sister: crape 5 days\nwedding ends grey", 3);
        h.person(MAN, -1, -1, -9000); // 4
        h.death(0, 0);
        h.death(2, 0);
        h.go(12);
        h.death(3, 12);
        h.wed(4, 1, 12);
        // The father's is grey on day 12, and over; the brother's too; the sister's is deeper.
        depths(h, 1, 12, 11, 2, 12, 4, 16, 4, 17, 0);
        Check.due("the father's", h.last(1, 0), 11);
        Check.due("the brother's", h.last(1, 2), 11);
        Check.due("the sister's", h.last(1, 3), 16);
        Check.due("she mourns all the same", h.mourns(1, 0, 12), 0);
        // Told later on, it works the days anew.
        MourningHouse anew = fatherAnd(2, "for father: grey 9 days\nfor brother: lilac 9 days; wait\nwedding ends grey", 2);
        anew.person(MAN, -1, -1, -9000); // 3
        anew.death(0, 0);
        anew.go(5);
        depths(anew, 1, 5, 4, 2, 5, 2, 8, 2, 9, 0);
        anew.wed(1, 3, 4);
        depths(anew, 1, 5, 3, 2, 4, 0, 5, 0);
        depths(anew, 1, 4, 3, 2, 4, 2, 8, 2, 9, 0);
        anew.death(2, 4);
        Check.due("begun and over on the wedding's day", anew.last(1, 2), Check.NO_ANSWER);
        depths(anew, 1, 5, 4, 0, 5, 0);
        MourningHouse behind = fatherAnd(2, "for father: grey 9 days; news\nwedding ends crape", 1);
        behind.person(MAN, -1, -1, -9000);
        behind.go(5);
        behind.wed(1, 3, 4);
        behind.death(0, 3);
        Check.due("not yet begun", behind.last(1, 0), 13);
        MourningHouse lilac = fatherAnd(3, "for father: grey 9 days\nfor brother: lilac 9 days\nwedding ends crape\nwedding ends lilac", 2);
        lilac.person(MAN, -1, -1, -9000); // 4
        lilac.death(0, 0);
        lilac.death(2, 0);
        lilac.go(3);
        lilac.wed(4, 1, 2);
        Check.due("lilac is over", lilac.last(1, 2), 1);
        Check.due("grey is not", lilac.last(1, 0), 8);
        // What waited goes on from the wedding's day on.
        MourningHouse freed = fatherAnd(2, "for father: grey 9 days\nfor brother: lilac 4 days; wait; firm\nwedding ends grey", 2);
        freed.person(MAN, -1, -1, -9000); // 3
        freed.death(0, 0);
        freed.go(3);
        freed.wed(1, 3, 2);
        freed.death(2, 3);
        Check.due("the brother's", freed.last(1, 2), 6);
        MourningHouse frees = fatherAnd(2, "for father: grey 9 days\nfor brother: black 1 days, lilac 4 days; wait; firm\n"
            + "wedding ends colours", 2);
        frees.person(MAN, -1, -1, -9000);
        frees.death(0, 0);
        frees.death(2, 0);
        frees.wed(1, 3, 0);
        Check.due("nothing isn't above colours", frees.last(1, 2), 12);
    }

    private static void weddingsByLaw() {
        MourningHouse h = fatherAnd(2, "for father: grey 90 days", 1);
        h.person(MAN, -1, -1, -9000); // 3
        h.death(0, 0);
        h.go(5);
        h.wed(1, 3, 5);
        Check.due("the law tells no end", h.last(1, 0), 89);
        h.go(5);
        Check.due("take", Check.take(h, "wedding ends black"), 0);
        h.wed(1, 3, 9);
        Check.due("not the law of that day", h.last(1, 0), 89);
        h.wed(2, 3, 10);
        h.wed(1, 3, 10);
        Check.due("the law of that day", h.last(1, 0), 9);
        Check.due("another's wedding", h.last(2, 0), 89);
    }

    private static void feasts() {
        MourningHouse h = fatherAnd(2, "for father: crape 20 days; firm\nfor brother: black 40 days\n"
            + "feast 1.5 to grey\nfeast 1.5 to lilac\nfeast 1.5 to black\nfeast 1.25 to grey\nfeast 1.30 to crape\nfeast 2.2 to colours", 2);
        h.person(WOMAN, -1, -1, -9000); // 3
        h.death(2, 0);
        depths(h, 1, 0, 3, 3, 4, 1, 5, 3, 24, 2, 29, 3, 32, 0, 33, 3);
        h.death(0, 0);
        depths(h, 1, 0, 4, 4, 19, 4, 24, 2);
        Check.due("a feast doesn't end it", h.last(1, 2), 39);
        h.go(1);
        Check.due("take", Check.take(h, "feast 2.2 to lilac"), 0);
        depths(h, 1, 1, 24, 3, 32, 1);
        depths(h, 1, 0, 24, 2, 32, 0);
    }

    private static void heirs() {
        MourningHouse h = fatherAnd(2, "for father: black 40 days\nheir 5 days to lilac", 1);
        h.death(0, 0);
        h.go(20);
        Check.due("heir", h.person(MAN, -1, 1, 10), 3);
        depths(h, 1, 20, 9, 3, 10, 1, 14, 1, 15, 3);
        depths(h, 2, 20, 10, 3, 12, 3);
        Check.due("not known", h.depth(1, 12, 19), 3);
        h.death(3, 12);
        depths(h, 1, 20, 14, 1);
        Check.due("of a man, too", h.person(WOMAN, 2, -1, 18), 4);
        depths(h, 2, 20, 17, 3, 18, 1, 22, 1, 23, 3);
        MourningHouse twice = fatherAnd(2, "for father: black 40 days\nheir 5 days to lilac\nheir 2 days to grey", 1);
        twice.death(0, 0);
        twice.person(MAN, -1, 1, 0);
        depths(twice, 1, 0, 0, 2, 1, 2, 2, 3);
        MourningHouse deeper = fatherAnd(2, "for father: lilac 40 days\nheir 5 days to black", 1);
        deeper.death(0, 0);
        deeper.person(MAN, -1, 1, 0);
        depths(deeper, 1, 0, 0, 1);
        MourningHouse short1 = fatherAnd(2, "for father: black 40 days\nheir 1 days to lilac", 1);
        short1.death(0, 0);
        short1.go(3);
        short1.person(MAN, -1, 1, 2);
        depths(short1, 1, 3, 1, 3, 2, 1, 3, 3);
        MourningHouse firm = fatherAnd(2, "for father: black 40 days; firm\nheir 5 days to lilac", 1);
        firm.death(0, 0);
        firm.person(MAN, -1, 1, 0);
        depths(firm, 1, 0, 0, 3);
    }

    private static void young() {
        MourningHouse h = Check.under("for father: crape 90 days; firm\nunder 7 to grey", 1);
        h.go(1590);
        h.person(MAN, -1, -1, -9000);
        // Born on the 29th of February 1796: seven years old on the 28th of February 1803.
        int birth = h.day(17960229);
        int seven = h.day(18030228);
        h.person(WOMAN, 0, -1, birth);
        h.person(WOMAN, 0, -1, birth + 1);
        h.death(0, seven - 5);
        depths(h, 1, 1590, seven - 5, 2, seven - 1, 2, seven, 4);
        depths(h, 2, 1590, seven, 2, seven + 1, 4);
        h.court(seven - 9, 300, 3);
        depths(h, 2, 1590, seven - 9, 2, seven, 2, seven + 1, 4);
        MourningHouse lawless = new MourningHouse();
        lawless.person(WOMAN, -1, -1, 0);
        lawless.court(0, 5, 3);
        depths(lawless, 0, 0, 0, 3);
    }

    private static void courts() {
        MourningHouse h = fatherAnd(1, "for father: black 10 days\nfeast 1.3 to colours", 1);
        h.death(0, 0);
        h.court(-3, 6, 1);
        h.court(2, 1, 4);
        h.court(12, 2, 2);
        depths(h, 1, 0, -4, 0, -3, 1, -1, 1, 0, 3, 1, 3, 2, 4, 3, 3, 10, 0, 12, 2, 13, 2, 14, 0);
        h.go(1);
        h.court(20, 1, 3);
        Check.due("not known", h.depth(1, 20, 0), 0);
        Check.due("known", h.depth(1, 20, 1), 3);
        Check.due("the end is no matter of the court's", h.last(1, 0), 9);
    }

    private static void withoutDepth() {
        MourningHouse h = fatherAnd(1, "for father: black 100 days", 1);
        h.death(0, 0);
        depths(h, 1, 0, -5000, -1, -4999, 0);
        h.go(50);
        h.death(1, 20);
        depths(h, 1, 50, 20, 3, 21, -1, 60, -1);
        depths(h, 1, 49, 21, 3, 60, 3);
        Check.due("the day of death is one", h.depth(0, 0, 50), 0);
        Check.due("no more", h.depth(0, 1, 50), -1);
        h.person(WOMAN, -1, -1, -10);
        Check.due("not known", h.depth(2, 0, 49), -1);
        Check.due("known", h.depth(2, 0, 50), 0);
    }

    private static void lawsByDays() {
        MourningHouse h = fatherAnd(1, "for father: black 100 days\nfeast 1.11 to lilac", 1);
        h.death(0, 0);
        h.go(10);
        Check.due("take", Check.take(h, "for father: crape 5 days"), 1);
        depths(h, 1, 9, 10, 1);
        depths(h, 1, 10, 10, 3);
        Check.due("by the law of the death", h.mourns(1, 0, 10), 0);
    }

    private static void lasts() {
        MourningHouse ages = fatherAnd(3, "for father: crape 999 years, black 999 years, grey 999 years, lilac 999 years; men half\n"
            + "for brother: lilac 1 days; wait\nfor sister: grey 199 years, lilac 364 days\nfor son: grey 200 years", 4);
        ages.death(0, 0);
        ages.death(2, 0);
        ages.death(3, 0);
        Check.due("999 years", ages.last(1, 0), 73048);
        Check.due("waits for ever", ages.last(1, 2), 73048);
        depths(ages, 1, 0, 73047, 4);
        Check.due("up to the last but one", ages.last(1, 3), 73046);
        Check.due("200 years of a father who died", ages.last(0, 2), 73047);
        Check.due("not dead", ages.last(0, 1), Check.NO_ANSWER);
        Check.due("none such", ages.last(0, 4), Check.NO_ANSWER);
        Check.due("none such", ages.last(4, 0), Check.NO_ANSWER);
        Check.due("none such", ages.last(-1, 0), Check.NO_ANSWER);
        Check.due("none such", ages.last(0, -1), Check.NO_ANSWER);
        // 400 years halved: as many days as 200 years have, or one more than the last day.
        MourningHouse half = fatherAnd(2, "for father: crape 400 years; men half", 1);
        half.death(0, 0);
        Check.due("a half", half.last(2, 0), 73048);
        MourningHouse days = fatherAnd(2, "for father: crape 200 years\nfor brother: grey 1 days", 2);
        days.go(1);
        days.death(0, 1);
        Check.due("one beyond", days.last(1, 0), 73048);
        // Lighter or not.
        MourningHouse lighter = fatherAnd(1, "for father: black 3 days\nfeast 1.3 to colours", 1);
        lighter.death(0, 0);
        Check.due("depth", lighter.depth(1, 2, 0), 0);
        Check.due("whatever makes lighter", lighter.last(1, 0), 2);
    }

    private static void edges() {
        MourningHouse h = fatherAnd(2, "for father: crape 40 days, lilac 20 days\nfor brother: lilac 5 days; news\nwedding ends crape", 2);
        h.person(MAN, -1, -1, -9000); // 3
        h.death(0, 0);
        Check.due("edge", h.edge(1, -1), 0);
        Check.due("edge", h.edge(1, 0), 10);
        Check.due("edge", h.edge(1, 29), 10);
        Check.due("edge", h.edge(1, 30), 8);
        Check.due("edge", h.edge(1, 40), 2);
        Check.due("edge", h.edge(1, 60), 0);
        Check.due("of the dead", h.edge(0, 1), -1);
        Check.due("of the dead", h.edge(0, 0), 0);
        h.go(35);
        h.death(2, 20);
        Check.due("from the news on", h.edge(1, 34), 8);
        Check.due("from the news on", h.edge(1, 35), 10);
        Check.due("though that is over", h.edge(1, 41), 4);
        h.wed(1, 3, 35);
        Check.due("over, but begun", h.edge(1, 35), 0);
        h.court(35, 40, 2);
        Check.due("over, but begun", h.edge(1, 35), 6);
        Check.due("over, but begun", h.edge(1, 64), 6);
        Check.due("thirty days", h.edge(1, 65), 4);
        Check.due("of another", h.edge(3, 65), 4);
        Check.due("none such", h.edge(4, 0), -1);
        Check.due("none such", h.edge(-1, 0), -1);
        Check.due("no such day", h.edge(1, 73048), -1);
        Check.due("no such day", h.edge(1, -36525), -1);
        Check.due("not born", h.edge(1, -5000), -1);
    }

    private static void refusals() {
        MourningHouse h = fatherAnd(1, "for father: black 10 days", 1);
        h.death(0, 0);
        Check.due("known later", h.mourns(1, 0, 1), -1);
        Check.due("known early", h.mourns(1, 0, -1), -1);
        Check.due("no such day", h.mourns(1, 0, Integer.MIN_VALUE), -1);
        Check.due("none such", h.mourns(2, 0, 0), -1);
        Check.due("none such", h.mourns(1, 2, 0), -1);
        Check.due("none such", h.mourns(-1, 0, 0), -1);
        Check.due("none such", h.mourns(1, -1, 0), -1);
        Check.due("known later", h.depth(1, 0, 1), -1);
        Check.due("known early", h.depth(1, 0, -1), -1);
        Check.due("no such day", h.depth(1, 73048, 0), -1);
        Check.due("no such day", h.depth(1, -36525, 0), -1);
        Check.due("no such day", h.depth(1, 0, Integer.MAX_VALUE), -1);
        Check.due("none such", h.depth(2, 0, 0), -1);
        Check.due("none such", h.depth(-1, 0, 0), -1);
        Check.due("there", h.depth(1, 73047, 0), 0);
    }
}
