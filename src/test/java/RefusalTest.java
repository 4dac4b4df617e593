/** "What is refused changes nothing": each method's refused calls, in a house where much is told, and in full ones. */
public final class RefusalTest {
    private static final int LEAST = Integer.MIN_VALUE;
    private static final int MOST = Integer.MAX_VALUE;
    private static final int[] NO_DAYS = {-36525, 73048, LEAST, MOST};

    public static void main(String[] args) {
        fullText();
        ends();
        sixLaws();
        goes();
        people();
        fortyPeople();
        deaths();
        marriages();
        fortyMarriages();
        orders();
        tenOrders();
        deeds();
        hundredDeeds();
        dresses();
        fortyDresses();
        cloths();
        hands();
        dyeing();
        making();
        twentyTasks();
        writing();
        askingChangesNothing();
        Check.done();
    }

    /** Day 5: a family in mourning, a stranger (5) and his wife (6), dresses and tasks, and a text begun. */
    static void household(MourningHouse h) {
        Check.due("take", Check.take(h, "for spouse: crape 9 days, black 9 days\nfor parent: black 12 days; wait\n"
            + "for sibling: grey 30 days\nmay call from grey\nfeast 1.9 to lilac"), 3);
        Check.due("person", h.person(10, -1, -1, -9000), 0);
        Check.due("person", h.person(1, -1, -1, -8900), 1);
        Check.due("wed", h.wed(0, 1, -6000), 0);
        Check.due("person", h.person(2, 0, 1, -5000), 2);
        Check.due("person", h.person(13, 0, 1, -4900), 3);
        Check.due("go", h.go(3), 3);
        Check.due("person", h.person(4, 0, -1, -4800), 4);
        Check.due("person", h.person(10, -1, -1, -4000), 5);
        Check.due("person", h.person(1, -1, -1, -3900), 6);
        Check.yes("death", h.death(0, 2));
        Check.due("court", h.court(5, 4, 1), 0);
        Check.due("go", h.go(2), 5);
        Check.due("wed", h.wed(6, 5, 4), 1);
        Check.due("deed", h.deed(1, 0), 0);
        Check.due("deed", h.deed(2, 1), 1);
        int[] sizesAndStuffs = {10, 14, 21, 23, 30, 42};
        for (int i = 0; i < sizesAndStuffs.length; i++) {
            Check.due("dress", h.dress(sizesAndStuffs[i] / 10, sizesAndStuffs[i] % 10), i);
        }
        Check.due("cloth", h.cloth(3, 2), 2);
        Check.due("cloth", h.cloth(4, 1), 1);
        Check.yes("hands", h.hands(2));
        Check.due("dye", h.dye(0, 3), 1);
        Check.due("make", h.make(1, 3), 2);
        Check.due("write", h.write(h.count(2) - 1, 1), 31);
        Check.feed(h, "for wife: grey 5 day");
    }

    private static void fillText(MourningHouse h, int size) {
        for (int i = 0; i < 150; i++) {
            h.feed(0x20202020, 0x20202020, 0x20202020, 0x20202020, 0x20202020);
        }
        Check.yes("end", h.end(size));
    }

    // ---- promises 2 to 4 ----

    private static void fullText() {
        for (int size : new int[] {2981, 2990, 2999, 3000}) {
            Refusal.none("feed behind " + size, h -> fillText(h, size), h -> h.feed(0x61, 0x62, 0x63, 0x64, 0x65));
        }
    }

    private static void ends() {
        for (int n : new int[] {-1, 21, 3000, LEAST, MOST}) {
            Refusal.no("end(" + n + ")", RefusalTest::household, h -> Refusal.bit(h.end(n)));
        }
    }

    private static void sixLaws() {
        Refusal.Work six = h -> {
            for (int i = 0; i < 5; i++) {
                Check.due("take", Check.take(h, i % 2 == 0 ? "for son: grey 1 days" : ""), 1 - i % 2);
            }
            household(h);
        };
        Refusal.none("take of a seventh", six, h -> h.take());
    }

    // ---- promise 9 ----

    private static void goes() {
        for (int n : new int[] {-1, 2001, LEAST, MOST}) {
            Refusal.none("go(" + n + ")", RefusalTest::household, h -> h.go(n));
        }
    }

    // ---- promises 10 to 13 ----

    private static void noPerson(int who, int father, int mother, int born) {
        Refusal.none("person(" + who + ", " + father + ", " + mother + ", " + born + ")", RefusalTest::household,
            h -> h.person(who, father, mother, born));
    }

    private static void people() {
        for (int who : new int[] {-1, 5, 9, 15, 19, 20, 100, LEAST, MOST}) {
            noPerson(who, -1, -1, 0);
        }
        for (int parent : new int[] {-2, 7, 40, LEAST, MOST}) {
            noPerson(0, parent, -1, 0);
            noPerson(0, -1, parent, 0);
        }
        noPerson(0, 1, -1, 0);
        noPerson(0, -1, 0, 0);
        noPerson(0, 0, -1, -9001);
        noPerson(0, -1, 1, -8901);
        noPerson(0, 0, 1, -8901);
        noPerson(0, -1, -1, 6);
        for (int day : NO_DAYS) {
            noPerson(0, -1, -1, day);
        }
    }

    private static void fortyPeople() {
        Refusal.Work forty = h -> {
            household(h);
            for (int i = 7; i < 40; i++) {
                Check.due("person", h.person(0, 5, 6, 0), i);
            }
        };
        Refusal.none("a 41st person", forty, h -> h.person(0, -1, -1, 0));
    }

    private static void deaths() {
        int[][] none = {{-1, 5}, {7, 5}, {40, 5}, {LEAST, 5}, {MOST, 5}, {0, 2}, {0, 5}, {1, -8901}, {1, 6},
            {1, -36525}, {1, 73048}, {1, LEAST}, {1, MOST}};
        for (int[] d : none) {
            Refusal.no("death(" + d[0] + ", " + d[1] + ")", RefusalTest::household, h -> Refusal.bit(h.death(d[0], d[1])));
        }
    }

    private static void marriages() {
        int[][] none = {{-1, 2, 5}, {2, -1, 5}, {7, 2, 5}, {2, 7, 5}, {LEAST, 2, 5}, {3, MOST, 5}, {2, 4, 5}, {3, 5, 5},
            {2, 2, 5}, {2, 3, -4901}, {3, 4, -4801}, {4, 3, -4801}, {5, 4, -4001}, {2, 5, 6},
            {2, 5, -36525}, {2, 5, 73048}, {2, 5, LEAST}, {2, 5, MOST}};
        for (int[] w : none) {
            Refusal.none("wed(" + w[0] + ", " + w[1] + ", " + w[2] + ")", RefusalTest::household, h -> h.wed(w[0], w[1], w[2]));
        }
    }

    private static void fortyMarriages() {
        Refusal.Work forty = h -> {
            household(h);
            for (int i = 2; i < 40; i++) {
                Check.due("wed", h.wed(5, 6, 5), i);
            }
        };
        Refusal.none("a 41st marriage", forty, h -> h.wed(2, 5, 5));
    }

    private static void orders() {
        int[][] none = {{5, 9, 0}, {5, 9, 5}, {5, 9, -1}, {5, 0, 4}, {5, 401, 4}, {5, -1, 4}, {5, LEAST, 4}, {5, MOST, 4},
            {5, 9, LEAST}, {5, 9, MOST}, {-36525, 9, 4}, {73048, 9, 4}, {LEAST, 9, 4}, {MOST, 9, 4}};
        for (int[] c : none) {
            Refusal.none("court(" + c[0] + ", " + c[1] + ", " + c[2] + ")", RefusalTest::household,
                h -> h.court(c[0], c[1], c[2]));
        }
    }

    private static void tenOrders() {
        Refusal.Work ten = h -> {
            household(h);
            for (int i = 1; i < 10; i++) {
                Check.due("court", h.court(5 + i, 1, 1), i);
            }
        };
        Refusal.none("an 11th order", ten, h -> h.court(5, 9, 4));
    }

    // ---- promise 20 ----

    private static void deeds() {
        int[][] none = {{1, -1}, {1, 4}, {1, LEAST}, {1, MOST}, {-1, 0}, {7, 0}, {40, 0}, {LEAST, 0}, {MOST, 0}, {0, 0}};
        for (int[] d : none) {
            Refusal.none("deed(" + d[0] + ", " + d[1] + ")", RefusalTest::household, h -> h.deed(d[0], d[1]));
        }
    }

    private static void hundredDeeds() {
        Refusal.Work hundred = h -> {
            h.person(0, -1, -1, 0);
            h.person(10, -1, -1, 0);
            for (int i = 0; i < 100; i++) {
                Check.due("deed", h.deed(0, 1), i);
            }
        };
        Refusal.none("a 101st deed", hundred, h -> h.deed(1, 2));
    }

    // ---- promises 24 to 28 ----

    private static void dresses() {
        for (int bad : new int[] {-1, 5, LEAST, MOST}) {
            Refusal.none("dress(" + bad + ", 0)", RefusalTest::household, h -> h.dress(bad, 0));
            Refusal.none("dress(0, " + bad + ")", RefusalTest::household, h -> h.dress(0, bad));
        }
    }

    private static void fortyDresses() {
        Refusal.Work forty = h -> {
            household(h);
            for (int i = 6; i < 39; i++) {
                Check.due("dress", h.dress(0, 0), i);
            }
        };
        Refusal.none("a 41st dress", forty, h -> h.dress(0, 0));
        Refusal.none("a 41st dress to be made", forty, h -> h.make(0, 4));
    }

    private static void cloths() {
        for (int bad : new int[] {-1, 5, LEAST, MOST}) {
            Refusal.none("cloth(" + bad + ", 1)", RefusalTest::household, h -> h.cloth(bad, 1));
        }
        for (int bad : new int[] {0, -1, 100, LEAST, MOST}) {
            Refusal.none("cloth(3, " + bad + ")", RefusalTest::household, h -> h.cloth(3, bad));
        }
    }

    private static void hands() {
        for (int bad : new int[] {-1, 5, LEAST, MOST}) {
            Refusal.no("hands(" + bad + ")", RefusalTest::household, h -> Refusal.bit(h.hands(bad)));
        }
    }

    private static void dyeing() {
        // Dress 0 is being dyed, 1 is as dark as can be, 2 is lilac, and a seventh one is being made.
        int[][] none = {{0, 4}, {1, 4}, {1, 0}, {2, 1}, {2, 0}, {2, -1}, {2, 5}, {2, LEAST}, {2, MOST},
            {-1, 4}, {6, 4}, {40, 4}, {LEAST, 4}, {MOST, 4}};
        for (int[] d : none) {
            Refusal.none("dye(" + d[0] + ", " + d[1] + ")", RefusalTest::household, h -> h.dye(d[0], d[1]));
        }
    }

    private static void making() {
        int[][] none = {{-1, 3}, {5, 3}, {LEAST, 3}, {MOST, 3}, {1, -1}, {1, 5}, {1, LEAST}, {1, MOST}, {1, 0}, {1, 2}};
        for (int[] m : none) {
            Refusal.none("make(" + m[0] + ", " + m[1] + ")", RefusalTest::household, h -> h.make(m[0], m[1]));
        }
    }

    private static void twentyTasks() {
        Refusal.Work twenty = h -> {
            household(h);
            for (int i = 3; i <= 20; i++) {
                h.cloth(0, 1);
                Check.due("make", h.make(0, 0), i);
            }
        };
        Refusal.none("a 21st task: dye", twenty, h -> h.dye(2, 4));
        Refusal.none("a 21st task: make", twenty, h -> h.make(1, 4));
    }

    // ---- promise 31, and what is only asked ----

    private static void writing() {
        int[][] none = {{0, -1}, {0, 3}, {0, LEAST}, {0, MOST}, {-1, 0}, {1, 0}, {6, 0}, {LEAST, 0}, {MOST, 0}};
        for (int[] w : none) {
            Refusal.none("write(" + w[0] + ", " + w[1] + ")", RefusalTest::household, h -> h.write(w[0], w[1]));
        }
    }

    /** A question that is answered, or not, leaves everything as it was. */
    private static void askingChangesNothing() {
        Refusal.due("plan", RefusalTest::household, h -> h.plan(2 + 4 + 8 + 16, 9, 0), 1);
        Refusal.due("planned", RefusalTest::household, h -> h.planned(2 + 4 + 8 + 16, 9, 1), 3);
        Refusal.none("no plan", RefusalTest::household, h -> h.plan(1, 9, 0));
        Refusal.due("depth", RefusalTest::household, h -> h.depth(1, 10, 5), 4);
        Refusal.none("no depth", RefusalTest::household, h -> h.depth(1, 10, 6));
        Refusal.due("last", RefusalTest::household, h -> h.last(1, 0), 19);
        Refusal.noAnswer("no last", RefusalTest::household, h -> h.last(5, 0));
        Refusal.due("edge", RefusalTest::household, h -> h.edge(1, 10), 10);
        Refusal.due("best", RefusalTest::household, h -> h.best(0, 5, 64, 1), 6);
        Refusal.noAnswer("no best", RefusalTest::household, h -> h.best(0, 5, 65, 1));
        Refusal.due("first", RefusalTest::household, h -> h.first(1, 1, 5), 20);
        Refusal.noAnswer("no first", RefusalTest::household, h -> h.first(1, 4, 5));
        Refusal.none("no byte", RefusalTest::household, h -> h.out(31));
        Refusal.none("no quarrel", RefusalTest::household, h -> h.quarrel(0, 0));
        Refusal.none("no fault", RefusalTest::household, h -> h.fault(3));
        Refusal.none("no count", RefusalTest::household, h -> h.count(15));
        Refusal.noAnswer("not told", RefusalTest::household, h -> h.told(1, 5));
        Refusal.none("not worn", RefusalTest::household, h -> h.worn(6, 0));
        Refusal.none("no deed", RefusalTest::household, h -> h.stands(2, 3));
        Refusal.no("no kin", RefusalTest::household, h -> Refusal.bit(h.kin(3, 1, 0, 0)));
        Refusal.no("may not", RefusalTest::household, h -> Refusal.bit(h.may(1, 0, 5, 5)));
        Refusal.none("no date", RefusalTest::household, h -> h.date(73048));
        Refusal.noAnswer("no day", RefusalTest::household, h -> h.day(18000229));
        Refusal.noAnswer("no months", RefusalTest::household, h -> h.months(73047, 1));
    }
}
