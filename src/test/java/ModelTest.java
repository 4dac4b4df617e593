import java.util.ArrayList;
import java.util.List;
import java.util.Random;

/**
 * Runs of random calls (of fixed seeds), each answered by the program and by PlainHouse alike.
 * Arguments: the first seed and how many runs (1 and 300, if none are given).
 */
public final class ModelTest {
    private static final String[] KIN = {"spouse", "husband", "wife", "child", "son", "daughter",
        "parent", "father", "mother", "sibling", "brother", "sister"};
    private static final String[] STUFFS = {"colours", "lilac", "grey", "black", "crape"};
    private static final String[] ACTS = {"call", "dine", "dance", "wed"};
    private static final String[] OPTIONS = {"men half", "wait", "firm", "news"};
    private static final int MOST_CALLS = 512;
    private static final int LATE = 72900;

    private final Random random;
    private final MourningHouse house = new MourningHouse();
    private final PlainHouse plain = new PlainHouse();
    private final List<String> log = new ArrayList<>();
    private final long seed;
    // What a run is about: 0 all alike, 1 texts, 2 mourning, 3 the wardrobe.
    private final int theme;
    private int people = 0;
    private int dead = 0;
    private int calls = 0;
    private boolean wrong = false;
    private String latestKin = "";

    private ModelTest(long seed) {
        this.seed = seed;
        random = new Random(seed);
        theme = (int) (seed % 4);
    }

    public static void main(String[] args) {
        Check.watch();
        long first = args.length > 0 ? Long.parseLong(args[0]) : 1;
        int runs = args.length > 1 ? Integer.parseInt(args[1]) : 300;
        int bad = 0;
        long all = 0;
        for (long seed = first; seed < first + runs && bad < 3; seed++) {
            ModelTest run = new ModelTest(seed);
            run.go();
            all += run.calls;
            if (run.wrong) {
                bad++;
            }
        }
        System.out.println(all + " calls" + (bad == 0 ? ", all answered as the plain model does" : ", runs that differ: " + bad));
        if (bad > 0) {
            System.exit(1);
        }
    }

    // ---- the run ----

    private void due(String call, long got, long want) {
        log.add(call + " = " + got);
        calls++;
        // Behind its 512th call an object may answer anything.
        if (got != want && !wrong && calls <= MOST_CALLS) {
            wrong = true;
            System.out.println("seed " + seed + ": " + call + " answered " + got + ", the plain model " + want);
            for (String line : log) {
                System.out.println("    " + line);
            }
        }
    }

    private int n(int bound) {
        return random.nextInt(bound);
    }

    private boolean chance(int percent) {
        return n(100) < percent;
    }

    private <T> T one(T[] all) {
        return all[n(all.length)];
    }

    private void go() {
        // Some runs are those of the last days.
        while (seed / 4 % 8 == 7 && now() < LATE) {
            go(Math.min(2000, LATE + n(100) - now()));
        }
        feedText(theme == 1 ? text(true) : text(false));
        take();
        for (int i = 2 + n(12); i >= 0 && theme != 1; i--) {
            person();
        }
        for (int i = n(6); i >= 0 && theme != 1; i--) {
            marry();
        }
        if (chance(80)) {
            go(n(60));
        }
        if (theme == 3) {
            furnish();
        }
        while (calls < MOST_CALLS - 40 && !wrong) {
            switch (theme) {
                case 1 -> textCall();
                case 3 -> wardrobeCall();
                default -> mourningCall();
            }
            if (chance(theme == 0 ? 60 : 4)) {
                switch (n(3)) {
                    case 0 -> textCall();
                    case 1 -> wardrobeCall();
                    default -> mourningCall();
                }
            }
        }
        for (int what = -1; what <= 15; what++) {
            due("count(" + what + ")", house.count(what), plain.count(what));
        }
    }

    private int now() {
        return plain.count(0);
    }

    private int wild() {
        int[] odd = {Integer.MIN_VALUE, Integer.MAX_VALUE, -36525, -36524, 73047, 73048, -2, -1, 0, 40, 100, 1 << 30, -(1 << 30)};
        return chance(70) ? odd[n(odd.length)] : random.nextInt();
    }

    private int whom() {
        return chance(4) ? chance(50) ? people : wild() : n(Math.max(1, people));
    }

    /** One who mourns for somebody, if a few tries find such a one. */
    private int mourner() {
        for (int i = 0; i < 30 && people > 0; i++) {
            int a = n(people);
            if (plain.depth(a, now(), now()) > 0 || i > 15 && mournedBy(a) != -1) {
                return a;
            }
        }
        return whom();
    }

    private int mournedBy(int a) {
        for (int i = 0; i < people; i++) {
            int d = (i + a) % people;
            if (plain.mourns(a, d, now()) != -1) {
                return d;
            }
        }
        return -1;
    }

    private int past() {
        if (chance(3)) {
            return wild();
        }
        int least = chance(90) ? Math.min(now(), 40) : 3000;
        return chance(30) ? now() : now() - n(least + 1) + (chance(3) ? 2 : 0);
    }

    private int known() {
        if (chance(3)) {
            return wild();
        }
        return chance(60) ? now() : n(now() + 1);
    }

    private int someDay() {
        if (chance(3)) {
            return wild();
        }
        return now() + (chance(70) ? n(60) - 25 : n(4000) - 1000);
    }

    // ---- texts ----

    private void feedText(String text) {
        if (text.length() > 2980) {
            text = text.substring(0, 2980);
        }
        int at = 0;
        while (at < text.length()) {
            int[] five = new int[5];
            for (int i = 0; i < 20; i++) {
                int b = at + i < text.length() ? text.charAt(at + i) : chance(50) ? ' ' : n(256);
                five[i / 4] = five[i / 4] << 8 | b;
            }
            feed(five);
            at += 20;
        }
        end(text.length());
        log.add("the text is: " + text.replace("\n", "\\n"));
    }

    private void feed(int[] f) {
        due("feed(..)", house.feed(f[0], f[1], f[2], f[3], f[4]), plain.feed(f[0], f[1], f[2], f[3], f[4]));
    }

    private void end(int n) {
        due("end(" + n + ")", house.end(n) ? 1 : 0, plain.end(n) ? 1 : 0);
    }

    private void take() {
        due("take()", house.take(), plain.take());
        for (int what = 0; what < 3; what++) {
            due("fault(" + what + ")", house.fault(what), plain.fault(what));
        }
    }

    private String text(boolean faulty) {
        StringBuilder text = new StringBuilder();
        int rules = chance(5) ? 28 + n(5) : 1 + n(6);
        int others = chance(8) ? n(30) : n(7);
        while (rules + others > 0) {
            if (n(rules + others) < rules) {
                text.append(rule());
                rules--;
            } else {
                text.append(otherLine());
                others--;
            }
            text.append(chance(5) ? " # aside; \u00c4" : "").append(chance(5) ? "\n\n" : "\n");
        }
        String whole = text.toString();
        if (chance(30) && !whole.isEmpty()) {
            whole = whole.substring(0, whole.length() - 1);
        }
        for (int i = faulty && chance(70) ? n(3) + 1 : 0; i > 0; i--) {
            whole = chance(50) ? spoilByte(whole) : spoilToken(whole);
        }
        return whole;
    }

    private String spoilByte(String text) {
        if (text.isEmpty()) {
            return text;
        }
        int at = n(text.length());
        String bytes = " \n:,;.#09azAZ\t\u00e9\u0000for";
        String b = chance(30) ? "" : "" + bytes.charAt(n(bytes.length()));
        return text.substring(0, at) + b + text.substring(chance(50) ? at : at + 1);
    }

    private String spoilToken(String text) {
        String[] words = {"for", "of", "may", "from", "feast", "to", "heir", "under", "wedding", "ends", "men", "half",
            "wait", "firm", "news", "days", "weeks", "son", "crape", "black", "grey", "lilac", "colours", "call", "wed",
            ":", ",", ";", ".", "0", "1", "13", "29", "30", "31", "32", "400", "401", "999", "1000", "99999999999999", "\n"};
        String[] parts = text.split(" ", -1);
        int at = n(parts.length);
        StringBuilder whole = new StringBuilder();
        for (int i = 0; i < parts.length; i++) {
            if (i == at) {
                whole.append(one(words)).append(' ');
                if (chance(50)) {
                    continue;
                }
            }
            whole.append(parts[i]).append(i + 1 < parts.length ? " " : "");
        }
        return whole.toString();
    }

    private String blank() {
        return chance(90) ? " " : "   ";
    }

    private String rule() {
        StringBuilder text = new StringBuilder("for" + blank());
        if (chance(70) || latestKin.isEmpty()) {
            int words = chance(70) ? 1 : chance(60) ? 2 : chance(95) ? 3 + n(2) : 5;
            latestKin = one(KIN);
            for (int i = 1; i < words; i++) {
                latestKin += " of " + one(KIN);
            }
        }
        text.append(latestKin);
        text.append(chance(50) ? ":" : " :" + blank());
        int depth = 5;
        do {
            depth = chance(2) ? 1 + n(4) : depth - 1 - (chance(60) ? 0 : n(depth - 1));
            text.append(depth < 5 && text.charAt(text.length() - 1) != ':' ? " " : "").append(STUFFS[depth])
                .append(blank()).append(length());
            if (depth == 1 || chance(40)) {
                break;
            }
            text.append(chance(50) ? "," : " , ");
        } while (depth > 1);
        for (int i = chance(50) ? n(3) : 0; i > 0; i--) {
            String option = one(OPTIONS);
            if (text.indexOf(option) < 0 || chance(5)) {
                text.append(chance(50) ? ";" : " ;" + blank()).append(option);
            }
        }
        return text.toString();
    }

    private String length() {
        int kind = n(20);
        if (kind < 11) {
            return 1 + n(25) + " days";
        }
        if (kind < 15) {
            return 1 + n(5) + " weeks";
        }
        if (kind < 18) {
            return 1 + n(8) + " months";
        }
        return kind < 19 ? 1 + n(3) + " years" : (chance(20) ? 1 + n(300) + " years" : 1 + n(999) + " days");
    }

    private String otherLine() {
        String stuff = one(STUFFS);
        switch (n(6)) {
            case 0:
            case 1:
                return "may " + one(ACTS) + " from " + stuff;
            case 2:
                int date = plain.date(now() + n(60));
                boolean near = chance(70) && date > 0;
                return "feast " + (near ? date / 100 % 100 : 1 + n(12)) + blank() + "."
                    + (near ? date % 100 : 1 + n(chance(90) ? 28 : 31)) + " to " + stuff;
            case 3:
                return "heir " + (1 + n(60)) + " days to " + stuff;
            case 4:
                return "under " + (1 + n(30)) + " to " + stuff;
            default:
                return chance(80) ? "wedding ends " + stuff : "";
        }
    }

    private void textCall() {
        int kind = n(20);
        if (kind < 6) {
            feedText(text(true));
            take();
        } else if (kind < 9) {
            int law = n(7) - (chance(10) ? 1 : 0);
            int i = chance(5) ? wild() : n(7);
            due("write(" + law + ", " + i + ")", house.write(law, i), plain.write(law, i));
            for (int b = chance(50) ? 0 : 20; b < 30; b++) {
                due("out(" + b + ")", house.out(b), plain.out(b));
            }
        } else if (kind < 12) {
            int law = chance(5) ? wild() : n(7);
            int i = chance(5) ? wild() : n(6);
            due("quarrel(" + law + ", " + i + ")", house.quarrel(law, i), plain.quarrel(law, i));
        } else if (kind < 13) {
            end(chance(50) ? wild() : n(30));
        } else if (kind < 14) {
            feed(new int[] {random.nextInt(), 0x666f7220, 0x20202020, 10, 0x3a2c3b2e});
        } else if (kind < 15) {
            int what = chance(50) ? n(4) : wild();
            due("fault(" + what + ")", house.fault(what), plain.fault(what));
        } else if (kind < 17) {
            int day = chance(20) ? wild() : n(73048 + 36524) - 36524;
            due("date(" + day + ")", house.date(day), plain.date(day));
            int months = chance(20) ? wild() : n(chance(50) ? 12001 : 400);
            due("months(" + day + ", " + months + ")", house.months(day, months), plain.months(day, months));
        } else if (kind < 19) {
            int date = chance(10) ? wild() : (1699 + n(302)) * 10000 + n(14) * 100 + n(33);
            due("day(" + date + ")", house.day(date), plain.day(date));
        } else {
            go(n(3));
        }
    }

    // ---- people and mourning ----

    private void go(int n) {
        due("go(" + n + ")", house.go(n), plain.go(n));
    }

    private int parent(int sex) {
        if (people == 0 || chance(15)) {
            return -1;
        }
        for (int i = 0; i < 9; i++) {
            int p = chance(70) ? n(Math.min(people, 6)) : n(people);
            if (plain.told(p, 0) == sex) {
                return p;
            }
        }
        return chance(95) ? -1 : whom();
    }

    private void person() {
        int father = parent(1);
        int mother = parent(0);
        int least = -9000;
        for (int p : new int[] {father, mother}) {
            if (p >= 0 && p < people) {
                least = Math.max(least, plain.told(p, 4));
            }
        }
        int span = people < 4 ? 800 : 9000;
        int born = chance(3) ? wild() : chance(20) ? now() - n(40) : least + n(Math.max(1, Math.min(span, now() - least + 1)));
        int who = chance(3) ? wild() : n(2) * 10 + n(chance(3) ? 7 : 5);
        int got = house.person(who, father, mother, born);
        due("person(" + who + ", " + father + ", " + mother + ", " + born + ")", got, plain.person(who, father, mother, born));
        people = plain.count(1);
    }

    private void marry() {
        int a = chance(50) ? mourner() : whom();
        int b = whom();
        for (int i = 0; i < 5 && plain.told(a, 0) == plain.told(b, 0); i++) {
            b = whom();
        }
        int day = past();
        if (chance(40) && a >= 0 && b >= 0 && a < people && b < people) {
            day = Math.max(plain.told(a, 4), plain.told(b, 4)) + n(4000);
        }
        due("wed(" + a + ", " + b + ", " + day + ")", house.wed(a, b, day), plain.wed(a, b, day));
    }

    private void bury() {
        int d = whom();
        for (int i = 0; i < 5 && plain.mourns(mourner(), d, now()) != -1; i++) {
            d = whom();
        }
        if (plain.count(1) < 3 * dead && chance(90)) {
            return;
        }
        int day = past();
        boolean got = house.death(d, day);
        dead += got ? 1 : 0;
        due("death(" + d + ", " + day + ")", got ? 1 : 0, plain.death(d, day) ? 1 : 0);
    }

    private void mourningCall() {
        int a = chance(75) ? mourner() : whom();
        int d = chance(60) ? mournedBy(a) : whom();
        int day = someDay();
        int known = known();
        int act = chance(3) ? wild() : n(4);
        int kind = n(100);
        if (kind < 6) {
            person();
        } else if (kind < 14) {
            bury();
        } else if (kind < 19) {
            marry();
        } else if (kind < 21) {
            int past = past();
            due("wed(" + a + ", " + d + ", " + past + ")", house.wed(a, d, past), plain.wed(a, d, past));
        } else if (kind < 22) {
            int days = chance(5) ? wild() : 1 + n(chance(70) ? 12 : 401);
            int depth = chance(5) ? wild() : n(5);
            due("court(" + day + ", " + days + ", " + depth + ")", house.court(day, days, depth), plain.court(day, days, depth));
        } else if (kind < 26) {
            go(chance(3) ? wild() : n(chance(80) ? 12 : chance(80) ? 400 : 2002));
        } else if (kind < 33) {
            int rule = chance(5) ? wild() : n(6);
            due("kin(" + rule + ", " + a + ", " + d + ", " + day + ")", house.kin(rule, a, d, day) ? 1 : 0,
                plain.kin(rule, a, d, day) ? 1 : 0);
        } else if (kind < 43) {
            due("mourns(" + a + ", " + d + ", " + known + ")", house.mourns(a, d, known), plain.mourns(a, d, known));
        } else if (kind < 60) {
            due("depth(" + a + ", " + day + ", " + known + ")", house.depth(a, day, known), plain.depth(a, day, known));
        } else if (kind < 67) {
            due("last(" + a + ", " + d + ")", house.last(a, d), plain.last(a, d));
        } else if (kind < 74) {
            due("edge(" + a + ", " + day + ")", house.edge(a, day), plain.edge(a, day));
        } else if (kind < 79) {
            due("may(" + a + ", " + act + ", " + day + ", " + known + ")", house.may(a, act, day, known) ? 1 : 0,
                plain.may(a, act, day, known) ? 1 : 0);
        } else if (kind < 83) {
            due("deed(" + a + ", " + act + ")", house.deed(a, act), plain.deed(a, act));
        } else if (kind < 90) {
            int deed = chance(5) ? wild() : n(plain.count(5) + 1);
            int what = chance(70) ? 3 : chance(80) ? n(5) : wild();
            due("stands(" + deed + ", " + what + ")", house.stands(deed, what), plain.stands(deed, what));
        } else if (kind < 94) {
            int to = chance(5) ? wild() : day + n(62);
            int what = chance(5) ? wild() : n(2);
            due("best(" + act + ", " + day + ", " + to + ", " + what + ")", house.best(act, day, to, what),
                plain.best(act, day, to, what));
        } else if (kind < 97) {
            due("first(" + a + ", " + act + ", " + day + ")", house.first(a, act, day), plain.first(a, act, day));
        } else {
            int what = chance(5) ? wild() : n(8);
            due("told(" + a + ", " + what + ")", house.told(a, what), plain.told(a, what));
        }
    }

    // ---- the wardrobe ----

    private void furnish() {
        int hands = 1 + n(4);
        due("hands(" + hands + ")", house.hands(hands) ? 1 : 0, plain.hands(hands) ? 1 : 0);
        for (int i = 4 + n(12); i > 0; i--) {
            int size = n(3);
            int stuff = n(5);
            due("dress(" + size + ", " + stuff + ")", house.dress(size, stuff), plain.dress(size, stuff));
        }
        for (int stuff = 0; stuff < 5; stuff++) {
            due("cloth(" + stuff + ", 2)", house.cloth(stuff, 2), plain.cloth(stuff, 2));
        }
        bury();
        bury();
    }

    private void wardrobeCall() {
        int dress = chance(5) ? wild() : n(plain.count(6) + 1);
        int size = chance(3) ? wild() : n(3);
        int stuff = chance(3) ? wild() : n(5);
        int kind = n(100);
        if (kind < 12) {
            due("dress(" + size + ", " + stuff + ")", house.dress(size, stuff), plain.dress(size, stuff));
        } else if (kind < 18) {
            int more = chance(10) ? wild() : 1 + n(chance(80) ? 4 : 100);
            due("cloth(" + stuff + ", " + more + ")", house.cloth(stuff, more), plain.cloth(stuff, more));
        } else if (kind < 22) {
            int more = chance(10) ? wild() : n(5);
            due("hands(" + more + ")", house.hands(more) ? 1 : 0, plain.hands(more) ? 1 : 0);
        } else if (kind < 32) {
            due("dye(" + dress + ", " + stuff + ")", house.dye(dress, stuff), plain.dye(dress, stuff));
        } else if (kind < 40) {
            due("make(" + size + ", " + stuff + ")", house.make(size, stuff), plain.make(size, stuff));
        } else if (kind < 50) {
            int what = chance(5) ? wild() : n(4);
            due("worn(" + dress + ", " + what + ")", house.worn(dress, what), plain.worn(dress, what));
        } else if (kind < 54) {
            go(n(3));
        } else if (kind < 58 && people > 0) {
            boolean killing = chance(30);
            if (killing) {
                bury();
            } else {
                person();
            }
        } else if (kind < 60) {
            int depth = 1 + n(4);
            int days = 1 + n(30);
            due("court(" + now() + ", " + days + ", " + depth + ")", house.court(now(), days, depth), plain.court(now(), days, depth));
        } else {
            plans();
        }
    }

    private void plans() {
        int bits = 0;
        for (int i = chance(5) ? 6 : n(5) + 1; i > 0; i--) {
            int who = n(Math.max(1, Math.min(people, 31)));
            for (int j = 0; j < 9 && (plain.told(who, 5) != PlainHouse.MIN || j < 4 && plain.depth(who, now() + 5, now()) < 1); j++) {
                who = n(Math.max(1, Math.min(people, 31)));
            }
            bits |= 1 << who;
        }
        if (chance(3)) {
            bits = wild();
        }
        int f = chance(3) ? wild() : now() + n(chance(90) ? 12 : 102);
        int least = chance(5) ? -1 : 0;
        int count = Math.min(5, Integer.bitCount(bits));
        for (int k = least; k < count + (chance(10) ? 1 : 0); k++) {
            due("plan(" + bits + ", " + f + ", " + k + ")", house.plan(bits, f, k), plain.plan(bits, f, k));
            due("planned(" + bits + ", " + f + ", " + k + ")", house.planned(bits, f, k), plain.planned(bits, f, k));
        }
    }
}
