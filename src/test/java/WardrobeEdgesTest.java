/** The boundary cases of promises 24 to 30, 34 and 36 and of the terms' part 6: a sentence, a test. */
public final class WardrobeEdgesTest {
    private static final int LEAST = Integer.MIN_VALUE;
    private static final int MOST = Integer.MAX_VALUE;
    private static final int[] NO_STUFFS = {-1, 5, 6, LEAST, MOST};
    private static final String[] STUFFS = {"colours", "lilac", "grey", "black", "crape"};

    public static void main(String[] args) {
        sizesAndStuffs();
        fortyDresses();
        thoseBeingMadeToo();
        oneToNinetyNineCloths();
        nineHundredAndNinetyNine();
        fourHands();
        greaterDepths();
        dressesThatAreNotThere();
        twoDaysToDye();
        clothAsItIsAskedFor();
        makingThatIsNone();
        threeDaysToMake();
        fortyDressesMade();
        twentyTasks();
        asManyAsHands();
        doneInOrder();
        theRowMovesUp();
        oneToFivePeople();
        numberedUpToThirty();
        eachAlive();
        daysOfPlans();
        kThOnes();
        needsAboveZero();
        wearTheLeast();
        dyeTheLeast();
        makeWithACloth();
        eachOneOfTheirOwn();
        daysThatCanBeWorked();
        behindThoseThere();
        fewestBought();
        thenMade();
        thenDyed();
        firstOfLikeOnes();
        beyondTwentyAndForty();
        worn();
        counts();
        Check.done();
    }

    private static void is(MourningHouse h, int dress, int size, int stuff, int there) {
        Check.due("size of " + dress, h.worn(dress, 0), size);
        Check.due("stuff of " + dress, h.worn(dress, 1), stuff);
        Check.due("there " + dress, h.worn(dress, 2), there);
    }

    // ---- Promise 24: dress ----

    /** "NONE if it can't be": SIZE 0 .. 4, STUFF 0 .. 4 */
    private static void sizesAndStuffs() {
        MourningHouse h = new MourningHouse();
        int number = 0;
        for (int size = -1; size <= 5; size++) {
            for (int stuff = -1; stuff <= 5; stuff++) {
                boolean due = size >= 0 && size <= 4 && stuff >= 0 && stuff <= 4;
                Check.due("dress(" + size + ", " + stuff + ")", h.dress(size, stuff), due ? number : -1);
                if (due) {
                    is(h, number, size, stuff, 1);
                    number++;
                }
                Check.due("dresses", h.count(6), number);
            }
        }
        for (int bad : NO_STUFFS) {
            Check.due("dress(0, " + bad + ")", h.dress(0, bad), -1);
            Check.due("dress(" + bad + ", 0)", h.dress(bad, 0), -1);
        }
    }

    private static MourningHouse dresses(int n) {
        MourningHouse h = new MourningHouse();
        for (int i = 0; i < n; i++) {
            Check.due("dress", h.dress(i % 5, 0), i);
        }
        return h;
    }

    /** "at most 40"; "or 40 came" */
    private static void fortyDresses() {
        MourningHouse h = dresses(39);
        Check.due("the 40th", h.dress(4, 3), 39);
        Check.due("a 41st", h.dress(4, 3), -1);
        Check.due("dresses", h.count(6), 40);
        is(h, 39, 4, 3, 1);
        Check.due("no 41st", h.worn(40, 0), -1);
        Check.due("the 40th is dyed", h.dye(39, 4), 1);
        h.hands(1);
        h.go(2);
        is(h, 39, 4, 4, 1);
        Check.due("still 40", h.dress(4, 3), -1);
    }

    /** "(those that are being made, too)" */
    private static void thoseBeingMadeToo() {
        MourningHouse h = dresses(36);
        h.cloth(1, 9);
        h.make(0, 1);
        h.make(0, 1);
        Check.due("the 39th", h.dress(0, 0), 36);
        Check.due("the 40th", h.dress(0, 0), 37);
        Check.due("a 41st", h.dress(0, 0), -1);
        h.hands(1);
        h.go(3);
        Check.due("a 41st when one is made", h.dress(0, 0), -1);
        Check.due("dresses", h.count(6), 39);
        h.go(3);
        Check.due("a 41st when both are made", h.dress(0, 0), -1);
        Check.due("dresses", h.count(6), 40);
        // One that is made is counted once: there is room for as many as before.
        MourningHouse room = dresses(37);
        room.cloth(1, 9);
        room.make(0, 1);
        room.hands(4);
        room.go(3);
        Check.due("dresses", room.count(6), 38);
        Check.due("a task for the 39th", room.make(0, 1), 1);
        Check.due("the 40th", room.dress(0, 0), 38);
        Check.due("a 41st", room.dress(0, 0), -1);
        room.go(3);
        Check.due("dresses", room.count(6), 40);
        is(room, 39, 0, 1, 1);
        // Those that are dyed are there once, too.
        MourningHouse dyed = dresses(38);
        dyed.dye(0, 1);
        dyed.dye(1, 1);
        Check.due("the 39th", dyed.dress(0, 0), 38);
        Check.due("the 40th", dyed.dress(0, 0), 39);
    }

    // ---- Promise 25: cloth ----

    /** "CLOTHS of a STUFF come (1 .. 99; ...): how many there are; NONE if it can't be." */
    private static void oneToNinetyNineCloths() {
        MourningHouse h = new MourningHouse();
        for (int stuff = 0; stuff <= 4; stuff++) {
            Check.due("none yet", h.count(10 + stuff), 0);
            for (int n : new int[] {0, -1, -99, 100, 101, 999, LEAST, MOST}) {
                Check.due("cloth(" + stuff + ", " + n + ")", h.cloth(stuff, n), -1);
            }
            Check.due("one", h.cloth(stuff, 1), 1);
            Check.due("ninety-nine", h.cloth(stuff, 99), 100);
            Check.due("two", h.cloth(stuff, 2), 102);
            Check.due("ninety-eight", h.cloth(stuff, 98), 200);
            Check.due("how many", h.count(10 + stuff), 200);
        }
        for (int bad : NO_STUFFS) {
            Check.due("cloth(" + bad + ", 1)", h.cloth(bad, 1), -1);
        }
        for (int stuff = 0; stuff <= 4; stuff++) {
            Check.due("how many", h.count(10 + stuff), 200);
        }
    }

    /** "999 there at most" */
    private static void nineHundredAndNinetyNine() {
        for (int stuff = 0; stuff <= 4; stuff++) {
            MourningHouse h = new MourningHouse();
            for (int i = 1; i <= 10; i++) {
                Check.due("cloth", h.cloth(stuff, 99), i * 99);
            }
            Check.due("more than 999", h.cloth(stuff, 10), -1);
            Check.due("more than 999", h.cloth(stuff, 99), -1);
            Check.due("how many", h.count(10 + stuff), 990);
            Check.due("998", h.cloth(stuff, 8), 998);
            Check.due("1000", h.cloth(stuff, 2), -1);
            Check.due("999", h.cloth(stuff, 1), 999);
            Check.due("1000", h.cloth(stuff, 1), -1);
            Check.due("how many", h.count(10 + stuff), 999);
            Check.due("of another stuff", h.cloth((stuff + 1) % 5, 99), 99);
            Check.due("make", h.make(0, stuff), 1);
            Check.due("one is taken", h.count(10 + stuff), 998);
            Check.due("999 again", h.cloth(stuff, 1), 999);
        }
    }

    // ---- Promise 26: hands ----

    /** "HANDS are 0 .. 4"; "true; false if they can't be" */
    private static void fourHands() {
        MourningHouse h = new MourningHouse();
        int want = 0;
        for (int n : new int[] {4, 0, 1, -1, 2, 5, 3, 6, 4, LEAST, MOST, 100, -4}) {
            boolean due = n >= 0 && n <= 4;
            Check.due("hands(" + n + ")", h.hands(n) ? 1 : 0, due ? 1 : 0);
            want = due ? n : want;
            Check.due("hands", h.count(8), want);
        }
    }

    // ---- Promise 27: dye ----

    /** "to a greater DEPTH"; "NONE if ... STUFF isn't of a greater DEPTH" */
    private static void greaterDepths() {
        for (int from = 0; from <= 4; from++) {
            for (int to = -1; to <= 5; to++) {
                MourningHouse h = new MourningHouse();
                h.dress(3, from);
                boolean due = to > from && to <= 4;
                Check.due("dye from " + from + " to " + to, h.dye(0, to), due ? 1 : -1);
                is(h, 0, 3, from, due ? 0 : 1);
                Check.due("tasks", h.count(7), due ? 1 : 0);
                h.hands(1);
                h.go(2);
                is(h, 0, 3, due ? to : from, 1);
            }
        }
        MourningHouse h = dresses(1);
        for (int bad : NO_STUFFS) {
            Check.due("dye(0, " + bad + ")", h.dye(0, bad), -1);
        }
    }

    /** "NONE if there is none such there"; "A DRESS with a TASK isn't there" */
    private static void dressesThatAreNotThere() {
        MourningHouse h = new MourningHouse();
        Check.due("no dress", h.dye(0, 4), -1);
        h.dress(0, 0);
        h.dress(0, 0);
        for (int none : new int[] {-1, 2, 3, 40, LEAST, MOST}) {
            Check.due("dye(" + none + ", 4)", h.dye(none, 4), -1);
        }
        Check.due("dye", h.dye(0, 1), 1);
        Check.due("it has a task", h.dye(0, 4), -1);
        Check.due("the other one", h.dye(1, 1), 2);
        h.hands(1);
        h.go(1);
        Check.due("it has a task", h.dye(0, 4), -1);
        h.go(1);
        Check.due("it is there again", h.dye(0, 4), 2);
        Check.due("the other one isn't", h.dye(1, 4), -1);
        h.cloth(0, 1);
        Check.due("make", h.make(0, 0), 3);
        Check.due("one that is being made isn't", h.dye(2, 4), -1);
        Check.due("nothing of it is there", h.worn(2, 2), -1);
    }

    /** "to DYE a DRESS to a greater DEPTH (2 DAYS)" */
    private static void twoDaysToDye() {
        MourningHouse h = dresses(1);
        h.hands(1);
        h.dye(0, 2);
        is(h, 0, 0, 0, 0);
        h.go(1);
        is(h, 0, 0, 0, 0);
        Check.due("tasks", h.count(7), 1);
        h.go(1);
        is(h, 0, 0, 2, 1);
        Check.due("tasks", h.count(7), 0);
        MourningHouse never = dresses(1);
        never.dye(0, 2);
        never.go(2000);
        is(never, 0, 0, 0, 0);
        never.hands(1);
        is(never, 0, 0, 0, 0);
        never.go(2);
        is(never, 0, 0, 2, 1);
    }

    // ---- Promise 28: make ----

    /** "a CLOTH of that STUFF as it is asked for"; "NONE if ... there is no CLOTH of it" */
    private static void clothAsItIsAskedFor() {
        for (int stuff = 0; stuff <= 4; stuff++) {
            MourningHouse h = new MourningHouse();
            for (int other = 0; other <= 4; other++) {
                if (other != stuff) {
                    h.cloth(other, 2);
                }
            }
            Check.due("no cloth of " + stuff, h.make(2, stuff), -1);
            h.cloth(stuff, 2);
            Check.due("make", h.make(2, stuff), 1);
            Check.due("one is left", h.count(10 + stuff), 1);
            Check.due("make", h.make(2, stuff), 2);
            Check.due("none is left", h.count(10 + stuff), 0);
            Check.due("no cloth of " + stuff, h.make(2, stuff), -1);
            Check.due("tasks", h.count(7), 2);
            for (int other = 0; other <= 4; other++) {
                Check.due("of another stuff", h.count(10 + other), other == stuff ? 0 : 2);
            }
        }
    }

    /** "NONE if SIZE or STUFF can't be" */
    private static void makingThatIsNone() {
        MourningHouse h = new MourningHouse();
        for (int stuff = 0; stuff <= 4; stuff++) {
            h.cloth(stuff, 9);
        }
        for (int bad : NO_STUFFS) {
            Check.due("make(" + bad + ", 0)", h.make(bad, 0), -1);
            Check.due("make(0, " + bad + ")", h.make(0, bad), -1);
        }
        int tasks = 0;
        for (int i = 0; i <= 4; i++) {
            Check.due("make", h.make(i, 4 - i), ++tasks);
        }
        h.hands(4);
        h.go(6);
        for (int i = 0; i <= 4; i++) {
            is(h, i, i, 4 - i, 1);
        }
    }

    /** "to MAKE a DRESS (3 DAYS ...)"; "a made one comes with the next number" */
    private static void threeDaysToMake() {
        MourningHouse h = dresses(1);
        h.hands(1);
        h.cloth(4, 1);
        h.make(3, 4);
        h.go(2);
        Check.due("dresses", h.count(6), 1);
        Check.due("tasks", h.count(7), 1);
        Check.due("not yet", h.worn(1, 0), -1);
        Check.due("one comes meanwhile", h.dress(2, 1), 1);
        h.go(1);
        Check.due("dresses", h.count(6), 3);
        is(h, 2, 3, 4, 1);
        Check.due("the next one", h.dress(0, 0), 3);
    }

    /** "or 40 DRESSES would be too few for all that are made" */
    private static void fortyDressesMade() {
        for (int n = 36; n <= 40; n++) {
            MourningHouse h = dresses(n);
            h.cloth(0, 9);
            for (int i = 1; i <= 6; i++) {
                Check.due("make " + i + " beside " + n, h.make(1, 0), n + i <= 40 ? i : -1);
            }
            Check.due("cloths", h.count(10), 9 - (40 - n));
            Check.due("no dress beside them", h.dress(0, 0), -1);
            h.hands(4);
            h.go(3);
            Check.due("dresses", h.count(6), 40);
            Check.due("no more", h.make(1, 0), -1);
        }
    }

    /** "TASKS (at most 20 there)" */
    private static void twentyTasks() {
        MourningHouse h = dresses(25);
        h.cloth(1, 9);
        for (int i = 0; i < 18; i++) {
            Check.due("dye", h.dye(i, 1), i + 1);
        }
        Check.due("the 19th", h.make(0, 1), 19);
        Check.due("the 20th", h.dye(18, 1), 20);
        Check.due("a 21st", h.dye(19, 1), -1);
        Check.due("a 21st", h.make(0, 1), -1);
        Check.due("tasks", h.count(7), 20);
        Check.due("cloths", h.count(11), 8);
        is(h, 19, 4, 0, 1);
        h.hands(1);
        h.go(2);
        Check.due("tasks", h.count(7), 19);
        Check.due("the 20th again", h.make(0, 1), 20);
        Check.due("a 21st", h.dye(19, 1), -1);
        h.hands(4);
        h.go(2000);
        Check.due("all are done", h.count(7), 0);
        Check.due("dresses", h.count(6), 27);
        Check.due("dye", h.dye(19, 1), 1);
    }

    /** "As a DAY ends, the first TASKS, as many as there are HANDS, are each a DAY further" */
    private static void asManyAsHands() {
        for (int hands = 0; hands <= 4; hands++) {
            MourningHouse h = dresses(9);
            for (int i = 0; i < 9; i++) {
                h.dye(i, 3);
            }
            h.hands(hands);
            int done = 0;
            for (int day = 1; day <= 12; day++) {
                h.go(1);
                done = Math.min(9, day / 2 * hands);
                Check.due("tasks by " + hands + " hands behind day " + day, h.count(7), 9 - done);
                for (int i = 0; i < 9; i++) {
                    Check.due("there", h.worn(i, 2), i < done ? 1 : 0);
                }
            }
        }
        // Many days at once are as many days.
        MourningHouse h = dresses(9);
        for (int i = 0; i < 9; i++) {
            h.dye(i, 3);
        }
        h.hands(2);
        h.go(5);
        Check.due("tasks behind five days", h.count(7), 5);
        h.go(1);
        Check.due("tasks behind six days", h.count(7), 3);
    }

    /** "those done go (in order)" */
    private static void doneInOrder() {
        MourningHouse h = new MourningHouse();
        h.cloth(1, 9);
        for (int i = 0; i < 5; i++) {
            h.make(4 - i, 1);
        }
        h.hands(4);
        h.go(3);
        for (int i = 0; i < 4; i++) {
            is(h, i, 4 - i, 1, 1);
        }
        Check.due("dresses", h.count(6), 4);
        h.go(3);
        is(h, 4, 0, 1, 1);
    }

    /** Each task keeps what it is to be, as those ahead of it go. */
    private static void theRowMovesUp() {
        MourningHouse h = dresses(4);
        for (int stuff = 1; stuff <= 4; stuff++) {
            h.cloth(stuff, 1);
        }
        h.dye(3, 1);
        h.make(4, 2);
        h.dye(2, 3);
        h.make(3, 4);
        h.dye(1, 2);
        h.make(2, 1);
        h.hands(1);
        int[] daysOfTasks = {2, 3, 2, 3, 2, 3};
        for (int i = 0; i < 6; i++) {
            h.go(daysOfTasks[i] - 1);
            Check.due("tasks", h.count(7), 6 - i);
            h.go(1);
            Check.due("tasks", h.count(7), 5 - i);
        }
        int[][] want = {{0, 0}, {1, 2}, {2, 3}, {3, 1}, {4, 2}, {3, 4}, {2, 1}};
        for (int i = 0; i < 7; i++) {
            is(h, i, want[i][0], want[i][1], 1);
        }
        // By two hands: the third task is begun as the first one is done, the row's first two being worked.
        MourningHouse two = dresses(3);
        two.cloth(0, 1);
        two.make(0, 0);
        for (int i = 0; i < 3; i++) {
            two.dye(i, 1 + i);
        }
        two.hands(2);
        int[] tasks = {4, 4, 3, 2, 1, 0};
        for (int day = 0; day < tasks.length; day++) {
            Check.due("tasks behind day " + day, two.count(7), tasks[day]);
            two.go(1);
        }
    }

    // ---- Promises 29 and 30: plan and planned ----

    /** A father 0 who died on day 0, and children from 1 on, of such sizes, born -5000. */
    private static MourningHouse mourning(String rule, int... sizes) {
        MourningHouse h = Check.under("for father: " + rule, 1);
        h.person(10, -1, -1, -9000);
        for (int size : sizes) {
            h.person(size, 0, -1, -5000);
        }
        h.death(0, 0);
        return h;
    }

    /** The ways and the dresses of a plan, by turns; behind them there is no further one. */
    private static void plan(MourningHouse h, int people, int f, int... want) {
        for (int k = 0; k * 2 < want.length; k++) {
            Check.due("plan(" + people + ", " + f + ", " + k + ")", h.plan(people, f, k), want[k * 2]);
            Check.due("planned(" + people + ", " + f + ", " + k + ")", h.planned(people, f, k), want[k * 2 + 1]);
        }
        Check.due("no further one", h.plan(people, f, want.length / 2), -1);
        Check.due("no further one", h.planned(people, f, want.length / 2), -1);
    }

    private static void noPlan(MourningHouse h, int people, int f) {
        for (int k = -1; k < 3; k++) {
            Check.due("plan(" + people + ", " + f + ", " + k + ")", h.plan(people, f, k), -1);
            Check.due("planned(" + people + ", " + f + ", " + k + ")", h.planned(people, f, k), -1);
        }
    }

    /** "PEOPLE (bits of those numbered up to 30; 1 to 5 of them ...)" */
    private static void oneToFivePeople() {
        MourningHouse h = mourning("grey 90 days", 0, 1, 2, 3, 4, 0, 1);
        for (int i = 0; i < 5; i++) {
            h.dress(i, 2);
        }
        noPlan(h, 0, 0);
        plan(h, 2, 0, 1, 0);
        plan(h, 6, 0, 1, 0, 1, 1);
        plan(h, 14, 0, 1, 0, 1, 1, 1, 2);
        plan(h, 30, 0, 1, 0, 1, 1, 1, 2, 1, 3);
        plan(h, 62, 0, 1, 0, 1, 1, 1, 2, 1, 3, 1, 4);
        plan(h, 124, 0, 1, 1, 1, 2, 1, 3, 1, 4, 1, 0);
        noPlan(h, 126, 0);
        noPlan(h, 254, 0);
        noPlan(h, 2 + 256, 0);
        noPlan(h, 256, 0);
        noPlan(h, MOST, 0);
    }

    private static void numberedUpToThirty() {
        MourningHouse h = mourning("grey 90 days", 1);
        for (int i = 2; i < 40; i++) {
            h.person(2, 0, -1, -5000);
        }
        h.dress(2, 2);
        plan(h, 1 << 30, 0, 1, 0);
        plan(h, (1 << 30) + (1 << 29), 0, 1, 0, 4, -1);
        plan(h, (1 << 30) + 2, 0, 4, -1, 1, 0);
        for (int bits : new int[] {1 << 31, (1 << 31) + 2, -1, -2, LEAST + 1, -(1 << 30)}) {
            noPlan(h, bits, 0);
        }
        MourningHouse few = mourning("grey 90 days", 1, 1);
        for (int bit = 3; bit < 31; bit++) {
            noPlan(few, 1 << bit, 0);
            noPlan(few, 2 | 1 << bit, 0);
        }
    }

    /** "each alive: no DEATH told" */
    private static void eachAlive() {
        MourningHouse h = mourning("grey 90 days", 1, 1, 1);
        noPlan(h, 1, 0);
        noPlan(h, 3, 0);
        plan(h, 14, 0, 4, -1, 4, -1, 4, -1);
        h.go(5);
        h.death(2, 5);
        noPlan(h, 14, 5);
        noPlan(h, 4, 5);
        plan(h, 10, 5, 4, -1, 4, -1);
        MourningHouse last = mourning("grey 90 days", new int[30]);
        plan(last, 1 << 30, 0, 4, -1);
        last.death(30, 0);
        noPlan(last, 1 << 30, 0);
        noPlan(last, 1 << 30 | 2, 0);
        plan(last, 1 << 29, 0, 4, -1);
    }

    /** "a DAY f (NOW or behind it, up to 100 DAYS)" */
    private static void daysOfPlans() {
        MourningHouse h = mourning("grey 1 years", 1);
        h.go(7);
        for (int f : new int[] {7, 8, 106, 107}) {
            plan(h, 2, f, 4, -1);
        }
        for (int f : new int[] {6, 0, -1, -36524, 108, 109, 73047, 73048, LEAST, MOST}) {
            noPlan(h, 2, f);
        }
        MourningHouse late = new MourningHouse();
        late.person(0, -1, -1, 0);
        for (int i = 0; i < 36; i++) {
            late.go(2000);
        }
        late.go(1000);
        late.court(73046, 9, 2);
        plan(late, 1, 73046, 4, -1);
        plan(late, 1, 73047, 4, -1);
        noPlan(late, 1, 73048);
        noPlan(late, 1, 73100);
    }

    /** "of the k-th of these PEOPLE (from 0 on)" */
    private static void kThOnes() {
        MourningHouse h = mourning("grey 90 days", 0, 1, 2, 3, 4);
        h.dress(3, 2);
        h.dress(1, 2);
        for (int none : new int[] {-1, 2, 3, 4, 5, 30, LEAST, MOST}) {
            Check.due("plan of k " + none, h.plan(4 + 16, 0, none), -1);
            Check.due("planned of k " + none, h.planned(4 + 16, 0, none), -1);
        }
        plan(h, 4 + 16, 0, 1, 1, 1, 0);
        plan(h, 16, 0, 1, 0);
        plan(h, 62, 0, 4, -1, 1, 1, 4, -1, 1, 0, 4, -1);
    }

    /** "each whose DEPTH on f (AS KNOWN NOW) is above 0 needs a DRESS of their SIZE and that STUFF" */
    private static void needsAboveZero() {
        MourningHouse h = mourning("crape 3 days, black 3 days, grey 3 days, lilac 3 days", 1);
        h.person(1, -1, -1, -5000);
        for (int stuff = 0; stuff <= 4; stuff++) {
            h.dress(1, stuff);
            h.dress(2, stuff);
        }
        for (int f = 0; f < 12; f++) {
            plan(h, 6, f, 1, 2 * (4 - f / 3), 0, -1);
        }
        plan(h, 6, 12, 0, -1, 0, -1);
        h.go(2);
        h.person(0, 0, -1, 2);
        plan(h, 6 + 8, 2, 1, 8, 0, -1, 4, -1);
        // What makes lighter or deeper on the day counts.
        MourningHouse feast = Check.under("for father: black 90 days\nfeast 1.3 to lilac\nfeast 1.4 to colours", 1);
        feast.person(10, -1, -1, -9000);
        feast.person(1, 0, -1, -5000);
        feast.death(0, 0);
        feast.court(5, 1, 4);
        for (int stuff = 0; stuff <= 4; stuff++) {
            feast.dress(1, stuff);
        }
        int[] worn = {3, 3, 1, -1, 3, 4, 3};
        for (int f = 0; f < worn.length; f++) {
            plan(feast, 2, f, worn[f] < 0 ? 0 : 1, worn[f]);
        }
    }

    /** "WEAR the least DRESS there that is so and isn't taken by one ahead" */
    private static void wearTheLeast() {
        MourningHouse h = mourning("grey 90 days", 1, 1, 1);
        h.dress(2, 2);
        h.dress(1, 3);
        h.dress(1, 1);
        h.dress(1, 2);
        h.dress(0, 2);
        h.dress(1, 2);
        plan(h, 2, 0, 1, 3);
        plan(h, 4, 0, 1, 3);
        plan(h, 14, 0, 1, 3, 1, 5, 4, -1);
        h.dye(3, 4);
        plan(h, 14, 0, 1, 5, 4, -1, 4, -1);
        h.dye(5, 4);
        plan(h, 2, 0, 4, -1);
    }

    /** "the least one there of that SIZE of a lesser DEPTH ... (for each lesser DEPTH one way, the greatest DEPTH first)" */
    private static void dyeTheLeast() {
        MourningHouse h = mourning("crape 90 days", 1, 1, 1);
        h.hands(4);
        int[] stuffs = {0, 1, 3, 2, 3};
        for (int stuff : stuffs) {
            h.dress(1, stuff);
            h.dress(2, stuff);
        }
        plan(h, 2, 2, 2, 4);
        plan(h, 14, 2, 2, 4, 2, 8, 2, 6);
        h.dye(4, 4);
        plan(h, 14, 4, 2, 8, 2, 6, 2, 2);
        h.dye(8, 4);
        h.dye(6, 4);
        plan(h, 14, 4, 2, 2, 2, 0, 4, -1);
        h.dye(2, 4);
        plan(h, 14, 5, 2, 0, 4, -1, 4, -1);
        // To that depth, not beyond: neither one as dark nor a darker one is dyed.
        MourningHouse grey = mourning("grey 90 days", 1);
        grey.hands(4);
        grey.dress(1, 3);
        grey.dress(1, 4);
        plan(grey, 2, 9, 4, -1);
        grey.dress(1, 0);
        plan(grey, 2, 9, 2, 2);
        grey.dress(1, 1);
        plan(grey, 2, 9, 2, 3);
    }

    /** "MAKE one, if there is a CLOTH left" */
    private static void makeWithACloth() {
        for (int depth = 1; depth <= 4; depth++) {
            MourningHouse h = mourning(STUFFS[depth] + " 90 days", 1, 2, 3);
            h.hands(4);
            for (int stuff = 0; stuff <= 4; stuff++) {
                if (stuff != depth) {
                    h.cloth(stuff, 9);
                }
            }
            plan(h, 14, 9, 4, -1, 4, -1, 4, -1);
            h.cloth(depth, 1);
            plan(h, 14, 9, 3, -1, 4, -1, 4, -1);
            h.cloth(depth, 1);
            plan(h, 14, 9, 3, -1, 3, -1, 4, -1);
            h.cloth(depth, 1);
            plan(h, 14, 9, 3, -1, 3, -1, 3, -1);
            h.make(0, depth);
            plan(h, 14, 9, 3, -1, 3, -1, 4, -1);
        }
        // A cloth reckoned with on a worse way is left: the first one dyes lilac, so that the second one wears grey.
        MourningHouse left = blackAndGrey();
        left.dress(1, 2);
        left.dress(1, 1);
        left.cloth(2, 1);
        plan(left, 2 + 8 + 32, 9, 2, 1, 1, 0, 3, -1);
    }

    /** Of size 1: person 1 in black, 3 in grey; of size 2: 5 in grey; four hands. */
    private static MourningHouse blackAndGrey() {
        MourningHouse h = Check.under("for father: black 90 days\nfor brother: grey 90 days", 2);
        h.person(10, -1, -1, -9000);
        h.person(1, 0, -1, -5000);
        h.person(10, -1, -1, -9000);
        h.person(1, 2, -1, -5000);
        h.person(11, 2, -1, -5000);
        h.person(2, 2, -1, -5000);
        h.death(0, 0);
        h.death(4, 0);
        h.hands(4);
        return h;
    }

    /** "each one of their own" */
    private static void eachOneOfTheirOwn() {
        MourningHouse h = mourning("grey 90 days", 1, 1, 1, 1, 1);
        h.hands(4);
        h.dress(1, 2);
        h.dress(1, 1);
        h.dress(1, 0);
        h.dress(1, 2);
        plan(h, 62, 9, 1, 0, 1, 3, 2, 1, 2, 2, 4, -1);
        h.dress(1, 0);
        plan(h, 62, 9, 1, 0, 1, 3, 2, 1, 2, 2, 2, 4);
        // The one with the 40th number is as good as the others.
        MourningHouse forty = mourning("grey 90 days", 1, 1);
        forty.hands(4);
        for (int i = 0; i < 39; i++) {
            forty.dress(2, 2);
        }
        forty.dress(1, 2);
        plan(forty, 6, 9, 1, 39, 4, -1);
        forty.dye(39, 3);
        plan(forty, 6, 9, 4, -1, 4, -1);
        MourningHouse numbers = mourning("grey 90 days", 1, 1);
        for (int i = 0; i < 31; i++) {
            numbers.dress(i == 0 ? 1 : 2, 2);
        }
        numbers.dress(2, 2);
        numbers.dress(1, 2);
        plan(numbers, 6, 0, 1, 0, 1, 32);
    }

    /** "all of them must be done when DAY f begins (so f - NOW DAYS can be worked)" */
    private static void daysThatCanBeWorked() {
        MourningHouse h = mourning("grey 90 days", 1, 2);
        h.hands(2);
        h.go(4);
        h.dress(1, 1);
        h.cloth(2, 1);
        plan(h, 6, 4, 4, -1, 4, -1);
        plan(h, 6, 5, 4, -1, 4, -1);
        plan(h, 6, 6, 2, 0, 4, -1);
        plan(h, 6, 7, 2, 0, 3, -1);
        h.hands(1);
        plan(h, 6, 6, 2, 0, 4, -1);
        plan(h, 6, 7, 2, 0, 4, -1);
        plan(h, 6, 8, 2, 0, 4, -1);
        plan(h, 6, 9, 2, 0, 3, -1);
        h.hands(0);
        plan(h, 6, 104, 0, -1, 0, -1);
        plan(h, 6, 89, 4, -1, 4, -1);
        h.hands(4);
        plan(h, 6, 89, 2, 0, 3, -1);
        // Five to be made: as many rounds of three days as they take by so many hands.
        MourningHouse five = mourning("black 90 days", 0, 1, 2, 3, 4);
        five.cloth(3, 9);
        int[][] daysByHands = {{1, 15}, {2, 9}, {3, 6}, {4, 6}};
        for (int[] d : daysByHands) {
            five.hands(d[0]);
            plan(five, 62, d[1], 3, -1, 3, -1, 3, -1, 3, -1, 3, -1);
            plan(five, 62, d[1] - 1, 3, -1, 3, -1, 3, -1, d[0] == 3 ? 4 : 3, -1, 4, -1);
        }
    }

    /** "TASKS of the PLAN stand behind those there, by numbers" */
    private static void behindThoseThere() {
        for (int tasks = 0; tasks <= 4; tasks++) {
            for (int hands = 1; hands <= 2; hands++) {
                MourningHouse h = mourning("grey 90 days", 1);
                for (int i = 0; i < tasks; i++) {
                    h.dress(4, 0);
                    h.dye(i, 1);
                }
                h.dress(1, 0);
                h.hands(hands);
                int ahead = tasks / hands * 2;
                plan(h, 2, ahead + 1, 4, -1);
                plan(h, 2, ahead + 2, 2, tasks);
            }
        }
        // A day that is worked already counts.
        MourningHouse h = mourning("grey 90 days", 1);
        h.dress(4, 0);
        h.dress(1, 0);
        h.hands(1);
        h.dye(0, 1);
        plan(h, 2, 3, 4, -1);
        h.go(1);
        plan(h, 2, 3, 4, -1);
        plan(h, 2, 4, 2, 1);
        h.go(1);
        plan(h, 2, 3, 4, -1);
        plan(h, 2, 4, 2, 1);
        // By numbers: the first one's making takes the only hand for three days.
        MourningHouse row = mourning("grey 90 days", 1, 2);
        row.hands(1);
        row.dress(2, 0);
        row.cloth(2, 1);
        plan(row, 6, 4, 4, -1, 2, 0);
        plan(row, 6, 5, 3, -1, 2, 0);
        MourningHouse done = mourning("grey 90 days", 1);
        done.hands(1);
        done.dress(1, 0);
        done.dye(0, 2);
        plan(done, 2, 9, 4, -1);
        done.go(2);
        plan(done, 2, 9, 1, 0);
    }

    /** "Best is the fewest that are bought" */
    private static void fewestBought() {
        // By two days of one hand but one is dyed: the one that wears leaves nobody else to buy.
        MourningHouse h = mourning("grey 90 days", 1, 1);
        h.hands(1);
        h.dress(1, 1);
        h.cloth(2, 2);
        // In five days one is dyed and one is made, whoever comes first; in four days but one of them.
        plan(h, 6, 5, 2, 0, 3, -1);
        plan(h, 6, 4, 2, 0, 4, -1);
        // Three are made rather than one bought.
        MourningHouse made = mourning("grey 90 days", 1, 2, 3, 4);
        made.hands(4);
        made.cloth(2, 4);
        plan(made, 30, 3, 3, -1, 3, -1, 3, -1, 3, -1);
        plan(made, 30, 2, 4, -1, 4, -1, 4, -1, 4, -1);
        // One who could wear it leaves it to be dyed by another, if that saves a purchase.
        MourningHouse two = blackAndGrey();
        two.hands(1);
        two.dress(1, 2);
        two.cloth(2, 1);
        // Person 1 needs black, person 3 grey. In three days: either the dyeing, or the making.
        plan(two, 10, 3, 4, -1, 1, 0);
        two.hands(2);
        plan(two, 10, 3, 2, 0, 3, -1);
    }

    /** "then made" */
    private static void thenMade() {
        MourningHouse h = mourning("grey 90 days", 1, 1, 1);
        h.hands(4);
        h.cloth(2, 9);
        h.dress(1, 1);
        h.dress(1, 0);
        plan(h, 14, 9, 2, 0, 2, 1, 3, -1);
        h.dress(1, 2);
        plan(h, 14, 9, 1, 2, 2, 0, 2, 1);
        // Two that are dyed are better than one that is made.
        MourningHouse two = blackAndGrey();
        two.cloth(3, 9);
        two.cloth(2, 9);
        two.dress(1, 2);
        two.dress(1, 1);
        // Person 1 (black) may dye either, person 3 (grey) may wear the first one: one is dyed in all.
        plan(two, 10, 9, 2, 1, 1, 0);
        two.dye(0, 4);
        plan(two, 10, 9, 2, 1, 3, -1);
        two.dress(1, 0);
        plan(two, 10, 9, 2, 1, 2, 2);
    }

    /** "then dyed" */
    private static void thenDyed() {
        MourningHouse h = mourning("lilac 90 days", 1, 1, 1, 1, 1);
        h.hands(4);
        h.cloth(1, 9);
        for (int i = 0; i < 5; i++) {
            h.dress(1, 0);
        }
        plan(h, 62, 9, 2, 0, 2, 1, 2, 2, 2, 3, 2, 4);
        h.dress(1, 1);
        plan(h, 62, 9, 1, 5, 2, 0, 2, 1, 2, 2, 2, 3);
        for (int i = 0; i < 4; i++) {
            h.dress(1, 1);
        }
        plan(h, 62, 9, 1, 5, 1, 6, 1, 7, 1, 8, 1, 9);
    }

    /** "of like ones the first one, in this order of ways" */
    private static void firstOfLikeOnes() {
        // One grey dress for two who need grey: the first one wears it, and dyeing stands ahead of making, making ahead of buying.
        MourningHouse h = mourning("grey 90 days", 1, 1);
        h.hands(1);
        h.dress(1, 2);
        plan(h, 6, 9, 1, 0, 4, -1);
        h.cloth(2, 1);
        plan(h, 6, 9, 1, 0, 3, -1);
        h.dress(1, 0);
        plan(h, 6, 9, 1, 0, 2, 1);
        MourningHouse ways = mourning("grey 90 days", 1, 1);
        ways.hands(1);
        ways.dress(1, 0);
        ways.dress(1, 1);
        plan(ways, 6, 9, 2, 1, 2, 0);
        plan(ways, 6, 3, 2, 1, 4, -1);
        MourningHouse made = mourning("grey 90 days", 1, 1);
        made.hands(1);
        made.cloth(2, 2);
        plan(made, 6, 6, 3, -1, 3, -1);
        plan(made, 6, 5, 3, -1, 4, -1);
    }

    /** "(TASKS beyond 20, or DRESSES beyond 40, don't matter to it.)" */
    private static void beyondTwentyAndForty() {
        MourningHouse h = mourning("grey 90 days", 1, 2);
        h.hands(4);
        for (int i = 0; i < 38; i++) {
            h.dress(4, 0);
        }
        h.dress(1, 0);
        h.dress(4, 0);
        h.cloth(2, 9);
        for (int i = 0; i < 20; i++) {
            Check.due("dye", h.dye(i, 1), i + 1);
        }
        Check.due("no dye", h.dye(38, 2), -1);
        Check.due("no make", h.make(2, 2), -1);
        // Ten days for the twenty, then two for the dyeing and three for the making.
        plan(h, 6, 13, 2, 38, 3, -1);
        plan(h, 6, 12, 2, 38, 4, -1);
        plan(h, 6, 11, 4, -1, 4, -1);
        plan(h, 2, 12, 2, 38);
        plan(h, 4, 13, 3, -1);
    }

    // ---- Promises 34 and 36: worn and count ----

    /** "Of a DRESS: 0 its SIZE, 1 STUFF, 2 whether it is there. NONE for others, or if there is none such." */
    private static void worn() {
        MourningHouse h = new MourningHouse();
        Check.due("none yet", h.worn(0, 0), -1);
        h.dress(0, 4);
        h.dress(4, 0);
        is(h, 0, 0, 4, 1);
        is(h, 1, 4, 0, 1);
        for (int none : new int[] {-1, 2, 39, 40, LEAST, MOST}) {
            for (int what = 0; what < 3; what++) {
                Check.due("worn(" + none + ", " + what + ")", h.worn(none, what), -1);
            }
        }
        for (int other : new int[] {-1, 3, 4, LEAST, MOST}) {
            Check.due("worn(0, " + other + ")", h.worn(0, other), -1);
        }
    }

    /** "10 and a STUFF: CLOTHS. NONE for others." */
    private static void counts() {
        MourningHouse h = new MourningHouse();
        RefusalTest.household(h);
        int[] want = {5, 7, 1, 2, 1, 2, 6, 2, 2, 20, 0, 0, 0, 1, 1};
        for (int what = 0; what < want.length; what++) {
            Check.due("count(" + what + ")", h.count(what), want[what]);
        }
        for (int other : new int[] {-1, -2, 15, 16, 100, LEAST, LEAST + 9, LEAST + 10, MOST}) {
            Check.due("count(" + other + ")", h.count(other), -1);
        }
        for (int stuff = 0; stuff <= 4; stuff++) {
            h.cloth(stuff, 10 + stuff);
        }
        int[] cloths = {10, 11, 12, 14, 15};
        for (int stuff = 0; stuff <= 4; stuff++) {
            Check.due("cloths of " + stuff, h.count(10 + stuff), cloths[stuff]);
        }
    }
}
