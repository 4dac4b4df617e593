/** Promises 24 to 30, 34 and 36: dresses, cloths, hands, tasks, plans and counts. */
public final class WardrobeTest {
    public static void main(String[] args) {
        dresses();
        cloths();
        handsAndCounts();
        dyeing();
        making();
        working();
        handsChange();
        fortyDresses();
        twentyTasks();
        plansAsked();
        ways();
        wearsOrDyes();
        fewestBought();
        behindOtherTasks();
        clothsOfPlans();
        likeOnes();
        crowded();
        Check.done();
    }

    private static void worn(MourningHouse h, int dress, int size, int stuff, int there) {
        Check.due("size of " + dress, h.worn(dress, 0), size);
        Check.due("stuff of " + dress, h.worn(dress, 1), stuff);
        Check.due("is there " + dress, h.worn(dress, 2), there);
    }

    private static void dresses() {
        MourningHouse h = new MourningHouse();
        Check.due("first", h.dress(0, 0), 0);
        Check.due("second", h.dress(4, 4), 1);
        for (int bad : new int[] {-1, 5, Integer.MIN_VALUE, Integer.MAX_VALUE}) {
            Check.due("no such size", h.dress(bad, 0), -1);
            Check.due("no such stuff", h.dress(0, bad), -1);
        }
        worn(h, 0, 0, 0, 1);
        worn(h, 1, 4, 4, 1);
        Check.due("others", h.worn(0, 3), -1);
        Check.due("others", h.worn(0, -1), -1);
        Check.due("none such", h.worn(2, 0), -1);
        Check.due("none such", h.worn(-1, 0), -1);
        Check.due("dresses", h.count(6), 2);
        for (int i = 2; i < 40; i++) {
            Check.due("dress", h.dress(1, 2), i);
        }
        Check.due("one more", h.dress(1, 2), -1);
    }

    private static void cloths() {
        MourningHouse h = new MourningHouse();
        Check.due("cloth", h.cloth(0, 99), 99);
        Check.due("cloth", h.cloth(4, 1), 1);
        Check.due("none", h.cloth(1, 0), -1);
        Check.due("too many", h.cloth(1, 100), -1);
        Check.due("less", h.cloth(1, -1), -1);
        Check.due("no such stuff", h.cloth(5, 1), -1);
        Check.due("no such stuff", h.cloth(-1, 1), -1);
        for (int i = 2; i <= 10; i++) {
            Check.due("cloth", h.cloth(0, 99), i * 99);
        }
        Check.due("a thousand", h.cloth(0, 10), -1);
        Check.due("999", h.cloth(0, 9), 999);
        Check.due("1000", h.cloth(0, 1), -1);
        int[] want = {999, 0, 0, 0, 1};
        for (int stuff = 0; stuff < 5; stuff++) {
            Check.due("count", h.count(10 + stuff), want[stuff]);
        }
    }

    private static void handsAndCounts() {
        MourningHouse h = new MourningHouse();
        for (int n = 0; n <= 4; n++) {
            Check.yes("hands", h.hands(n));
            Check.due("count", h.count(8), n);
        }
        Check.no("hands", h.hands(5));
        Check.no("hands", h.hands(-1));
        Check.due("count", h.count(8), 4);
        Check.due("others", h.count(15), -1);
        Check.due("others", h.count(-1), -1);
        Check.due("others", h.count(Integer.MIN_VALUE), -1);
        Check.due("others", h.count(Integer.MAX_VALUE), -1);
        h.go(3);
        Check.take(h, "");
        h.person(0, -1, -1, 0);
        h.person(10, -1, -1, 0);
        h.person(10, -1, -1, 0);
        h.wed(0, 1, 0);
        h.wed(0, 2, 0);
        h.wed(0, 1, 0);
        h.wed(0, 1, 0);
        for (int i = 0; i < 5; i++) {
            h.court(0, 1, 1);
            h.deed(0, 0);
            h.dress(0, 0);
        }
        h.deed(0, 0);
        h.dye(0, 1);
        h.dye(1, 1);
        h.feed(0, 0, 0, 0, 0);
        int[] want = {3, 3, 1, 4, 5, 6, 5, 2, 4, 20};
        for (int what = 0; what < 10; what++) {
            Check.due("count(" + what + ")", h.count(what), want[what]);
        }
    }

    private static void dyeing() {
        MourningHouse h = new MourningHouse();
        h.dress(2, 1);
        h.dress(2, 4);
        Check.due("as it is", h.dye(0, 1), -1);
        Check.due("lighter", h.dye(0, 0), -1);
        Check.due("no such stuff", h.dye(0, 5), -1);
        Check.due("no such stuff", h.dye(0, -1), -1);
        Check.due("the darkest", h.dye(1, 4), -1);
        Check.due("none such", h.dye(2, 4), -1);
        Check.due("none such", h.dye(-1, 4), -1);
        Check.due("tasks", h.count(7), 0);
        Check.due("dye", h.dye(0, 3), 1);
        worn(h, 0, 2, 1, 0);
        Check.due("not there", h.dye(0, 4), -1);
        h.hands(1);
        h.go(1);
        worn(h, 0, 2, 1, 0);
        h.go(1);
        worn(h, 0, 2, 3, 1);
        Check.due("tasks", h.count(7), 0);
        Check.due("darker again", h.dye(0, 4), 1);
        h.hands(0);
        h.go(100);
        worn(h, 0, 2, 3, 0);
    }

    private static void making() {
        MourningHouse h = new MourningHouse();
        Check.due("no cloth", h.make(0, 3), -1);
        h.cloth(3, 2);
        h.cloth(0, 1);
        Check.due("of another stuff", h.make(0, 2), -1);
        for (int bad : new int[] {-1, 5, Integer.MIN_VALUE, Integer.MAX_VALUE}) {
            Check.due("no such size", h.make(bad, 3), -1);
            Check.due("no such stuff", h.make(0, bad), -1);
        }
        Check.due("make", h.make(4, 3), 1);
        Check.due("cloths", h.count(13), 1);
        Check.due("make", h.make(1, 0), 2);
        Check.due("make", h.make(0, 3), 3);
        Check.due("no cloth left", h.make(0, 3), -1);
        Check.due("dresses", h.count(6), 0);
        Check.due("none such yet", h.worn(0, 0), -1);
        h.hands(2);
        h.go(2);
        Check.due("dresses", h.count(6), 0);
        h.go(1);
        Check.due("dresses", h.count(6), 2);
        worn(h, 0, 4, 3, 1);
        worn(h, 1, 1, 0, 1);
        h.go(3);
        worn(h, 2, 0, 3, 1);
    }

    private static void working() {
        // By two hands: make (3), dye (2), make (3), dye (2).
        MourningHouse h = new MourningHouse();
        h.dress(0, 0);
        h.dress(1, 0);
        h.cloth(1, 9);
        h.make(2, 1);
        h.dye(0, 4);
        h.make(3, 1);
        h.dye(1, 4);
        h.hands(2);
        h.go(1);
        Check.due("tasks", h.count(7), 4);
        h.go(1);
        Check.due("the dye is done", h.count(7), 3);
        worn(h, 0, 0, 4, 1);
        h.go(1);
        Check.due("the first one is made", h.count(7), 2);
        worn(h, 2, 2, 1, 1);
        h.go(1);
        Check.due("tasks", h.count(7), 2);
        h.go(1);
        Check.due("both on one day", h.count(7), 0);
        worn(h, 3, 3, 1, 1);
        worn(h, 1, 1, 4, 1);
        // A dress that comes in between has the next number, as a made one comes last.
        h.make(4, 1);
        Check.due("dress", h.dress(0, 0), 4);
        h.go(2000);
        worn(h, 5, 4, 1, 1);
        // Those done on one day come in the order of their row.
        h.make(3, 1);
        h.make(1, 1);
        h.go(3);
        worn(h, 6, 3, 1, 1);
        worn(h, 7, 1, 1, 1);
    }

    private static void handsChange() {
        MourningHouse h = new MourningHouse();
        for (int i = 0; i < 4; i++) {
            h.dress(i, 0);
            h.dye(i, 1);
        }
        h.hands(4);
        h.go(1);
        h.hands(1);
        h.go(1);
        Check.due("tasks", h.count(7), 3);
        h.go(1);
        Check.due("tasks", h.count(7), 2);
        h.hands(0);
        h.go(5);
        Check.due("tasks", h.count(7), 2);
        h.hands(3);
        h.go(1);
        Check.due("tasks", h.count(7), 0);
    }

    private static void fortyDresses() {
        MourningHouse h = new MourningHouse();
        h.cloth(0, 99);
        for (int i = 0; i < 38; i++) {
            h.dress(0, 0);
        }
        Check.due("make", h.make(0, 0), 1);
        Check.due("make", h.make(0, 0), 2);
        Check.due("too few for all", h.make(0, 0), -1);
        Check.due("with those being made", h.dress(0, 0), -1);
        Check.due("cloths", h.count(10), 97);
        h.hands(1);
        h.go(3);
        Check.due("dresses", h.count(6), 39);
        Check.due("with those being made", h.dress(0, 0), -1);
        h.go(3);
        Check.due("dresses", h.count(6), 40);
        Check.due("one more", h.make(0, 0), -1);
        Check.due("one more", h.dress(0, 0), -1);
    }

    private static void twentyTasks() {
        MourningHouse h = new MourningHouse();
        h.cloth(0, 99);
        for (int i = 0; i < 20; i++) {
            h.dress(0, 0);
        }
        for (int i = 0; i < 19; i++) {
            Check.due("dye", h.dye(i, 1), i + 1);
        }
        Check.due("make", h.make(0, 0), 20);
        Check.due("make", h.make(0, 0), -1);
        Check.due("dye", h.dye(19, 1), -1);
        Check.due("cloths", h.count(10), 98);
        Check.due("there", h.worn(19, 2), 1);
        h.hands(4);
        h.go(2);
        Check.due("tasks", h.count(7), 16);
        Check.due("dye", h.dye(19, 1), 17);
    }

    /** A father 0 who died on day 0, and children from 1 on: of such sizes. */
    private static MourningHouse mourning(String stuff, int... sizes) {
        MourningHouse h = Check.under("for father: " + stuff + " 90 days", 1);
        h.person(10, -1, -1, -9000);
        for (int i = 0; i < sizes.length; i++) {
            h.person(i % 2 * 10 + sizes[i], 0, -1, -5000);
        }
        h.death(0, 0);
        return h;
    }

    /** The ways and dresses of a plan, by turns. */
    private static void plan(MourningHouse h, int people, int f, int... want) {
        for (int k = 0; k * 2 < want.length; k++) {
            Check.due("plan(" + people + ", " + f + ", " + k + ")", h.plan(people, f, k), want[k * 2]);
            Check.due("planned(" + people + ", " + f + ", " + k + ")", h.planned(people, f, k), want[k * 2 + 1]);
        }
        Check.due("no further one", h.plan(people, f, want.length / 2), -1);
    }

    private static void plansAsked() {
        MourningHouse h = mourning("black", 0, 0, 0, 0, 0, 0);
        h.go(5);
        Check.due("buy", h.plan(2, 5, 0), 4);
        Check.due("nobody", h.plan(0, 5, 0), -1);
        Check.due("the dead", h.plan(1, 5, 0), -1);
        Check.due("the dead too", h.plan(3, 5, 0), -1);
        Check.due("five", h.plan(62, 5, 4), 4);
        Check.due("six", h.plan(126, 5, 0), -1);
        Check.due("none such", h.plan(128, 5, 0), -1);
        Check.due("none such", h.plan(2 + (1 << 30), 5, 0), -1);
        Check.due("less", h.plan(Integer.MIN_VALUE, 5, 0), -1);
        Check.due("less", h.plan(Integer.MIN_VALUE + 2, 5, 0), -1);
        Check.due("the day ahead of now", h.plan(2, 4, 0), -1);
        Check.due("a hundred days", h.plan(2, 105, 0), 0);
        Check.due("a hundred and one", h.plan(2, 106, 0), -1);
        Check.due("no k-th", h.plan(2, 5, 1), -1);
        Check.due("no k-th", h.plan(2, 5, -1), -1);
        Check.due("no k-th", h.planned(2, 5, 1), -1);
        Check.due("no such day", h.plan(2, Integer.MIN_VALUE, 0), -1);
        Check.due("no such day", h.plan(2, Integer.MAX_VALUE, 0), -1);
        h.dress(0, 3);
        Check.due("wears", h.planned(2, 5, 0), 0);
        Check.due("it can't be asked", h.planned(3, 5, 0), -1);
        Check.due("it can't be asked", h.planned(2, 4, 0), -1);
        for (int i = 7; i < 40; i++) {
            h.person(0, 0, -1, -50);
        }
        Check.due("the 30th", h.plan(1 << 30, 5, 0), 1);
        lastDays();
    }

    private static void lastDays() {
        MourningHouse h = new MourningHouse();
        h.person(0, -1, -1, 0);
        for (int i = 0; i < 36; i++) {
            h.go(2000);
        }
        h.go(1000);
        h.court(73040, 20, 3);
        Check.due("the last day", h.plan(1, 73047, 0), 4);
        Check.due("behind the last day", h.plan(1, 73048, 0), -1);
    }

    private static void ways() {
        MourningHouse h = mourning("black", 0, 0, 0, 0);
        h.hands(4);
        h.dress(0, 3);
        h.dress(0, 2);
        h.cloth(3, 1);
        plan(h, 30, 10, 1, 0, 2, 1, 3, -1, 4, -1);
        plan(h, 30, 90, 0, -1, 0, -1, 0, -1, 0, -1);
        // As many days as they take.
        plan(h, 30, 3, 1, 0, 2, 1, 3, -1, 4, -1);
        plan(h, 30, 2, 1, 0, 2, 1, 4, -1, 4, -1);
        plan(h, 30, 1, 1, 0, 4, -1, 4, -1, 4, -1);
        h.hands(0);
        plan(h, 30, 10, 1, 0, 4, -1, 4, -1, 4, -1);
        Check.due("it is but a plan", h.count(7), 0);
        Check.due("it is but a plan", h.count(13), 1);
        worn(h, 1, 0, 2, 1);
    }

    private static void wearsOrDyes() {
        MourningHouse h = mourning("black", 1, 1);
        h.hands(1);
        h.dress(1, 0);
        h.dress(1, 4);
        h.dress(2, 3);
        h.dress(1, 2);
        h.dress(1, 1);
        h.dress(1, 2);
        // The greatest lesser depth first, of these the least dress; never a darker one, nor another size.
        plan(h, 6, 4, 2, 3, 2, 5);
        h.dye(3, 4);
        plan(h, 6, 6, 2, 5, 2, 4);
        h.dye(5, 4);
        plan(h, 6, 8, 2, 4, 2, 0);
        h.dress(1, 3);
        h.dress(1, 3);
        plan(h, 6, 0, 1, 6, 1, 7);
        plan(h, 4, 0, 1, 6);
    }

    private static void fewestBought() {
        // By one hand in three days: either one is dyed, or one is made; with two hands both.
        MourningHouse h = mourning("grey", 0, 1);
        h.hands(1);
        h.cloth(2, 1);
        h.dress(1, 0);
        plan(h, 6, 2, 4, -1, 2, 0);
        // Bought 1 each way; making is more than dyeing.
        plan(h, 6, 3, 4, -1, 2, 0);
        plan(h, 6, 5, 3, -1, 2, 0);
        plan(h, 6, 4, 4, -1, 2, 0);
        h.hands(2);
        plan(h, 6, 3, 3, -1, 2, 0);
        // One goes without the dress that the other one can but have by it.
        MourningHouse two = Check.under("for father: black 90 days\nfor brother: grey 90 days", 2);
        two.person(10, -1, -1, -9000); // 0
        two.person(10, 0, -1, -5000);  // 1 mourns the father and the brother
        two.person(10, -1, -1, -8000); // 2
        two.person(0, 2, -1, -5000);   // 3
        two.person(10, 2, -1, -5000);  // 4
        two.death(4, 0);               // 3 in grey
        two.death(0, 0);               // 1 in black
        two.hands(1);
        two.dress(0, 2);
        two.dress(0, 1);
        // In two days but one is dyed: 3 wears the grey one, as that is fewer dyed.
        plan(two, 10, 2, 2, 1, 1, 0);
        plan(two, 2, 2, 2, 0);
    }

    private static void behindOtherTasks() {
        MourningHouse h = mourning("black", 0, 0);
        h.hands(2);
        h.cloth(0, 9);
        h.make(4, 0);
        h.dress(0, 0);
        h.dress(0, 0);
        // One hand is free at once, the other one in three days.
        plan(h, 6, 2, 2, 0, 4, -1);
        plan(h, 6, 4, 2, 0, 2, 1);
        plan(h, 6, 3, 2, 0, 4, -1);
        h.make(4, 0);
        plan(h, 6, 4, 4, -1, 4, -1);
        plan(h, 6, 5, 2, 0, 2, 1);
        h.go(1);
        plan(h, 6, 4, 4, -1, 4, -1);
        plan(h, 6, 5, 2, 0, 2, 1);
        h.hands(1);
        plan(h, 6, 6, 4, -1, 4, -1);
        plan(h, 6, 7, 2, 0, 4, -1);
        plan(h, 6, 9, 2, 0, 2, 1);
        // A begun task that has lost its hand keeps the days that are done.
        h.hands(4);
        h.go(1);
        h.hands(1);
        plan(h, 6, 6, 2, 0, 4, -1);
        plan(h, 6, 5, 4, -1, 4, -1);
    }

    private static void clothsOfPlans() {
        MourningHouse h = mourning("crape", 0, 1, 2, 3, 4);
        h.hands(4);
        h.cloth(4, 3);
        h.cloth(3, 9);
        plan(h, 62, 10, 3, -1, 3, -1, 3, -1, 4, -1, 4, -1);
        h.dress(2, 1);
        plan(h, 62, 10, 3, -1, 3, -1, 2, 0, 3, -1, 4, -1);
        h.dress(4, 4);
        plan(h, 62, 10, 3, -1, 3, -1, 2, 0, 3, -1, 1, 1);
        Check.due("cloths", h.count(14), 3);
        // Three of three days by one hand: nine days.
        h.hands(1);
        plan(h, 62, 11, 3, -1, 3, -1, 2, 0, 3, -1, 1, 1);
        plan(h, 62, 10, 3, -1, 3, -1, 2, 0, 4, -1, 1, 1);
    }

    private static void likeOnes() {
        // One dress for two: the first one in the order of ways has it.
        MourningHouse h = mourning("lilac", 3, 3);
        h.hands(1);
        h.dress(3, 0);
        plan(h, 6, 5, 2, 0, 4, -1);
        h.cloth(1, 1);
        plan(h, 6, 5, 2, 0, 3, -1);
        h.dress(3, 1);
        plan(h, 6, 5, 1, 1, 2, 0);
        // No time for the second one's making behind the first one's dyeing, but for a dyeing alone.
        MourningHouse late = mourning("lilac", 3, 3);
        late.hands(1);
        late.dress(3, 0);
        late.cloth(1, 1);
        plan(late, 6, 4, 2, 0, 4, -1);
        // Both ones' tasks stand in the order of the people.
        MourningHouse row = mourning("lilac", 2, 3);
        row.hands(1);
        row.dress(3, 0);
        row.cloth(1, 1);
        plan(row, 6, 4, 4, -1, 2, 0);
    }

    private static void crowded() {
        // More tasks than twenty and dresses than forty don't matter to a plan.
        MourningHouse h = mourning("lilac", 0);
        h.cloth(0, 40);
        h.cloth(1, 1);
        h.hands(4);
        for (int i = 0; i < 20; i++) {
            h.dress(4, 0);
        }
        for (int i = 0; i < 20; i++) {
            Check.due("make", h.make(4, 0), i + 1);
        }
        // Fifteen days for the twenty, three more for hers.
        plan(h, 2, 17, 4, -1);
        plan(h, 2, 18, 3, -1);
    }
}
