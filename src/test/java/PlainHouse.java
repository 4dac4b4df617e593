import java.time.LocalDate;
import java.time.temporal.ChronoUnit;
import java.util.ArrayList;
import java.util.Arrays;
import java.util.HashSet;
import java.util.List;
import java.util.Set;
import java.util.regex.Matcher;
import java.util.regex.Pattern;

/** The document once more, as slowly and plainly as can be: what ModelTest holds the program against. */
final class PlainHouse {
    static final int NONE = -1;
    static final int MIN = Integer.MIN_VALUE;
    static final int FIRST = -36524;
    static final int LAST = 73047;
    private static final LocalDate ZERO = LocalDate.of(1800, 1, 1);
    private static final List<String> KIN = List.of("spouse", "husband", "wife", "child", "son", "daughter",
        "parent", "father", "mother", "sibling", "brother", "sister");
    private static final List<String> STUFFS = List.of("colours", "lilac", "grey", "black", "crape");
    private static final List<String> UNITS = List.of("days", "weeks", "months", "years");
    private static final List<String> ACTS = List.of("call", "dine", "dance", "wed");
    private static final List<String> OPTIONS = List.of("men", "wait", "firm", "news");

    record Person(int sex, int size, int father, int mother, int born, int told) { }
    record Death(int day, int told) { }
    record Marriage(int a, int b, int day, int told) { }
    record Order(int day, int days, int depth, int told) { }
    record Deed(int who, int act, int day) { }
    record Part(int depth, int number, String unit) { }
    record Rule(List<String> kin, List<Part> parts, Set<String> options) {
        String text() {
            List<String> pieces = new ArrayList<>();
            for (Part p : parts) {
                pieces.add(STUFFS.get(p.depth) + " " + p.number + " " + p.unit);
            }
            StringBuilder text = new StringBuilder("for " + String.join(" of ", kin) + ": " + String.join(", ", pieces));
            for (String o : OPTIONS) {
                if (options.contains(o)) {
                    text.append("; ").append(o.equals("men") ? "men half" : o);
                }
            }
            return text.toString();
        }
    }
    record Feast(int month, int day, int depth) { }
    static final class Law {
        int taken;
        final List<Rule> rules = new ArrayList<>();
        final List<Feast> feasts = new ArrayList<>();
        final Integer[] may = new Integer[4];
        int heirDays = -1;
        int heirDepth;
        int underYears = -1;
        int underDepth;
        int wedding = -1;
    }
    static final class Dress {
        int size;
        int stuff;
        boolean there = true;
        Dress(int size, int stuff) {
            this.size = size;
            this.stuff = stuff;
        }
    }
    static final class Task {
        final int dress;
        final int size;
        final int stuff;
        int left;
        Task(int dress, int size, int stuff, int left) {
            this.dress = dress;
            this.size = size;
            this.stuff = stuff;
            this.left = left;
        }
    }
    static final class Fault extends Exception {
        private static final long serialVersionUID = 1;
        final int token;
        final int kind;
        Fault(int token, int kind) {
            this.token = token;
            this.kind = kind;
        }
    }

    private final List<Person> people = new ArrayList<>();
    private final Death[] deaths = new Death[40];
    private final List<Marriage> marriages = new ArrayList<>();
    private final List<Order> orders = new ArrayList<>();
    private final List<Deed> deeds = new ArrayList<>();
    private final List<Law> laws = new ArrayList<>();
    private final List<Dress> dresses = new ArrayList<>();
    private final List<Task> tasks = new ArrayList<>();
    private final int[] cloths = new int[5];
    private final int[] fault = new int[3];
    private String text = "";
    private String written = "";
    private int hands = 0;
    private int now = 0;

    // ---- calendar ----
    private static boolean isDay(int d) {
        return d >= FIRST && d <= LAST;
    }

    private boolean isPast(int d) {
        return isDay(d) && d <= now;
    }

    private static LocalDate local(int day) {
        return ZERO.plusDays(day);
    }

    private static int number(LocalDate date) {
        return (int) ChronoUnit.DAYS.between(ZERO, date);
    }

    int date(int day) {
        LocalDate d = local(day);
        return isDay(day) ? d.getYear() * 10000 + d.getMonthValue() * 100 + d.getDayOfMonth() : NONE;
    }

    int day(int date) {
        String s = "" + date;
        if (!s.matches("[0-9]{8}")) {
            return MIN;
        }
        try {
            int day = number(LocalDate.parse(s.substring(0, 4) + "-" + s.substring(4, 6) + "-" + s.substring(6)));
            return isDay(day) ? day : MIN;
        } catch (java.time.DateTimeException e) {
            return MIN;
        }
    }

    int months(int day, int months) {
        if (!isDay(day) || months < 0 || months > 12000) {
            return MIN;
        }
        int later = number(local(day).plusMonths(months));
        return later > LAST ? MIN : later;
    }

    // ---- text ----
    int feed(int a, int b, int c, int d, int e) {
        if (text.length() + 20 > 3000) {
            return NONE;
        }
        StringBuilder more = new StringBuilder(text);
        for (int x : new int[] {a, b, c, d, e}) {
            for (int i = 3; i >= 0; i--) {
                more.append((char) (x >>> 8 * i & 0xff));
            }
        }
        text = more.toString();
        return text.length();
    }

    boolean end(int n) {
        if (n < 0 || n > text.length()) {
            return false;
        }
        text = text.substring(0, n);
        return true;
    }

    int take() {
        if (laws.size() == 6) {
            return NONE;
        }
        Law law = new Law();
        Arrays.fill(fault, 0);
        String[] lines = text.split("\n", -1);
        text = "";
        for (int i = 0; i < lines.length; i++) {
            try {
                new LineReader(lines[i], law).read();
            } catch (Fault f) {
                fault[0] = i + 1;
                fault[1] = f.token;
                fault[2] = f.kind;
                return NONE;
            }
        }
        law.taken = now;
        laws.add(law);
        return law.rules.size();
    }

    static final class LineReader {
        private static final Pattern TOKEN = Pattern.compile("[a-z]+|[0-9]+|[:,;.]");
        private final String line;
        private final Law law;
        private final List<String> tokens = new ArrayList<>();
        private int at = 0;

        LineReader(String line, Law law) {
            this.line = line;
            this.law = law;
        }

        void read() throws Fault {
            int remark = line.indexOf('#');
            String told = remark < 0 ? line : line.substring(0, remark);
            Matcher m = TOKEN.matcher(told);
            int i = 0;
            while (i < told.length()) {
                if (told.charAt(i) == ' ') {
                    i++;
                } else if (m.find(i) && m.start() == i) {
                    tokens.add(m.group());
                    i = m.end();
                } else {
                    throw new Fault(tokens.size() + 1, 1);
                }
            }
            if (tokens.isEmpty()) {
                return;
            }
            switch (peek()) {
                case "for" -> rule();
                case "may" -> {
                    at++;
                    int act = ACTS.indexOf(oneOf(ACTS));
                    word("from");
                    int s = STUFFS.indexOf(oneOf(STUFFS));
                    over();
                    law.may[act] = s;
                }
                case "feast" -> {
                    if (law.feasts.size() == 8) {
                        throw new Fault(1, 6);
                    }
                    at++;
                    int month = num(1, 12);
                    word(".");
                    int day = num(1, java.time.Month.of(month).maxLength());
                    word("to");
                    int s = STUFFS.indexOf(oneOf(STUFFS));
                    over();
                    law.feasts.add(new Feast(month, day, s));
                }
                case "heir" -> {
                    at++;
                    int n = num(1, 400);
                    word("days");
                    word("to");
                    int s = STUFFS.indexOf(oneOf(STUFFS));
                    over();
                    law.heirDays = n;
                    law.heirDepth = s;
                }
                case "under" -> {
                    at++;
                    int n = num(1, 30);
                    word("to");
                    int s = STUFFS.indexOf(oneOf(STUFFS));
                    over();
                    law.underYears = n;
                    law.underDepth = s;
                }
                case "wedding" -> {
                    at++;
                    word("ends");
                    int s = STUFFS.indexOf(oneOf(STUFFS));
                    over();
                    law.wedding = s;
                }
                default -> throw bad(2);
            }
        }

        private void rule() throws Fault {
            if (law.rules.size() == 30) {
                throw bad(6);
            }
            at++;
            List<String> kin = new ArrayList<>();
            while (true) {
                if (KIN.contains(peek()) && kin.size() == 4) {
                    throw bad(6);
                }
                kin.add(oneOf(KIN));
                if (!peek().equals("of")) {
                    break;
                }
                at++;
            }
            word(":");
            List<Part> parts = new ArrayList<>();
            while (true) {
                int depth = STUFFS.indexOf(peek());
                if (depth < 1) {
                    throw bad(2);
                }
                if (parts.size() == 4) {
                    throw bad(6);
                }
                if (!parts.isEmpty() && parts.get(parts.size() - 1).depth <= depth) {
                    throw bad(4);
                }
                at++;
                int n = num(1, 999);
                parts.add(new Part(depth, n, oneOf(UNITS)));
                if (!peek().equals(",")) {
                    break;
                }
                at++;
            }
            Set<String> options = new HashSet<>();
            while (peek().equals(";")) {
                at++;
                if (options.contains(peek())) {
                    throw bad(5);
                }
                String o = oneOf(OPTIONS);
                if (o.equals("men")) {
                    word("half");
                }
                options.add(o);
            }
            over();
            law.rules.add(new Rule(kin, parts, options));
        }

        private String peek() {
            return at < tokens.size() ? tokens.get(at) : "";
        }

        private Fault bad(int kind) {
            return new Fault(at + 1, kind);
        }

        private String oneOf(List<String> words) throws Fault {
            if (!words.contains(peek())) {
                throw bad(2);
            }
            return tokens.get(at++);
        }

        private void word(String w) throws Fault {
            oneOf(List.of(w));
        }

        private void over() throws Fault {
            if (at < tokens.size()) {
                throw bad(2);
            }
        }

        private int num(int least, int most) throws Fault {
            if (!peek().matches("[0-9]+")) {
                throw bad(2);
            }
            java.math.BigInteger n = new java.math.BigInteger(peek());
            if (n.compareTo(java.math.BigInteger.valueOf(least)) < 0 || n.compareTo(java.math.BigInteger.valueOf(most)) > 0) {
                throw bad(3);
            }
            at++;
            return n.intValue();
        }
    }

    int fault(int what) {
        return what >= 0 && what <= 2 ? fault[what] : NONE;
    }

    int write(int law, int i) {
        if (law < 0 || law >= laws.size() || i < 0 || i >= laws.get(law).rules.size()) {
            return NONE;
        }
        written = laws.get(law).rules.get(i).text();
        return written.length();
    }

    int out(int i) {
        return i >= 0 && i < written.length() ? written.charAt(i) : NONE;
    }

    int quarrel(int law, int i) {
        if (law < 0 || law >= laws.size() || i < 0) {
            return NONE;
        }
        List<Integer> found = new ArrayList<>();
        List<Rule> rules = laws.get(law).rules;
        for (int a = 0; a < rules.size(); a++) {
            for (int b = a + 1; b < rules.size(); b++) {
                if (rules.get(a).kin.equals(rules.get(b).kin) && !rules.get(a).text().equals(rules.get(b).text())) {
                    found.add(a * 100 + b);
                }
            }
        }
        return i < found.size() ? found.get(i) : NONE;
    }

    // ---- people ----
    private boolean has(int p) {
        return p >= 0 && p < people.size();
    }

    int person(int who, int father, int mother, int born) {
        if (who < 0 || who > 14 || who % 10 > 4 || people.size() == 40 || !isPast(born)) {
            return NONE;
        }
        for (int sex = 0; sex < 2; sex++) {
            int parent = sex == 1 ? father : mother;
            if (parent != NONE && (!has(parent) || people.get(parent).sex != sex || people.get(parent).born > born)) {
                return NONE;
            }
        }
        people.add(new Person(who / 10, who % 10, father, mother, born, now));
        return people.size() - 1;
    }

    boolean death(int p, int day) {
        if (!has(p) || deaths[p] != null || !isPast(day) || day < people.get(p).born) {
            return false;
        }
        deaths[p] = new Death(day, now);
        return true;
    }

    int wed(int a, int b, int day) {
        if (!has(a) || !has(b) || people.get(a).sex == people.get(b).sex || !isPast(day)
            || day < people.get(a).born || day < people.get(b).born || marriages.size() == 40) {
            return NONE;
        }
        marriages.add(new Marriage(a, b, day, now));
        return marriages.size() - 1;
    }

    int court(int day, int days, int depth) {
        if (!isDay(day) || days < 1 || days > 400 || depth < 1 || depth > 4 || orders.size() == 10) {
            return NONE;
        }
        orders.add(new Order(day, days, depth, now));
        return orders.size() - 1;
    }

    /** Whether x is W to y. */
    private boolean isWTo(String w, int x, int y, int day, int known) {
        Person px = people.get(x);
        Person py = people.get(y);
        int at = KIN.indexOf(w);
        if (at % 3 == 1 && px.sex != 1 || at % 3 == 2 && px.sex != 0) {
            return false;
        }
        switch (KIN.get(at - at % 3)) {
            case "spouse":
                for (Marriage m : marriages) {
                    if (m.told <= known && m.day <= day && (m.a == x && m.b == y || m.a == y && m.b == x)) {
                        return true;
                    }
                }
                return false;
            case "child":
                return px.father == y || px.mother == y;
            case "parent":
                return py.father == x || py.mother == x;
            default:
                return x != y && (px.father != NONE && px.father == py.father || px.mother != NONE && px.mother == py.mother);
        }
    }

    /** Whether d is kin of a by the words from the i-th one on. */
    private boolean isKin(List<String> kin, int i, int a, int d, int day, int known) {
        if (d == a || people.get(d).told > known) {
            return false;
        }
        if (i == kin.size() - 1) {
            return isWTo(kin.get(i), d, a, day, known);
        }
        for (int v = 0; v < people.size(); v++) {
            if (isWTo(kin.get(i), d, v, day, known) && isKin(kin, i + 1, a, v, day, known)) {
                return true;
            }
        }
        return false;
    }

    boolean kin(int rule, int a, int d, int day) {
        if (laws.isEmpty() || !has(a) || !has(d) || !isDay(day)) {
            return false;
        }
        List<Rule> rules = laws.get(laws.size() - 1).rules;
        return rule >= 0 && rule < rules.size() && isKin(rules.get(rule).kin, 0, a, d, day, now);
    }

    private Law lawOf(int day, int known) {
        Law found = null;
        for (Law l : laws) {
            if (l.taken <= day && l.taken <= known) {
                found = l;
            }
        }
        return found;
    }

    // ---- mourning ----
    int mourns(int a, int d, int known) {
        if (!has(a) || !has(d) || !isPast(known) || people.get(a).told > known
            || deaths[d] == null || deaths[d].told > known) {
            return NONE;
        }
        Law law = lawOf(deaths[d].day, known);
        if (law == null) {
            return NONE;
        }
        for (int words = 1; words <= 4; words++) {
            for (int r = law.rules.size() - 1; r >= 0; r--) {
                List<String> kin = law.rules.get(r).kin;
                if (kin.size() == words && isKin(kin, 0, a, d, deaths[d].day, known)) {
                    return r;
                }
            }
        }
        return NONE;
    }

    private static final class Grief {
        int dead;
        Rule rule;
        int begin;
        List<Integer> days = new ArrayList<>();
        boolean over;
        boolean everOn;
        int lastOn = MIN;
    }

    private List<Grief> griefs(int a, int known) {
        List<Grief> found = new ArrayList<>();
        for (int d = 0; d < people.size(); d++) {
            int r = mourns(a, d, known);
            if (r == NONE) {
                continue;
            }
            Grief g = new Grief();
            g.dead = d;
            g.rule = lawOf(deaths[d].day, known).rules.get(r);
            g.begin = g.rule.options.contains("news") ? deaths[d].told : deaths[d].day;
            g.begin = Math.max(g.begin, people.get(a).born);
            LocalDate from = local(g.begin);
            for (Part p : g.rule.parts) {
                LocalDate to = switch (p.unit) {
                    case "days" -> from.plusDays(p.number);
                    case "weeks" -> from.plusWeeks(p.number);
                    case "months" -> from.plusMonths(p.number);
                    default -> from.plusYears(p.number);
                };
                int length = (int) ChronoUnit.DAYS.between(from, to);
                if (g.rule.options.contains("men") && people.get(a).sex == 1) {
                    length = length / 2 + length % 2;
                }
                for (int i = 0; i < length; i++) {
                    g.days.add(p.depth);
                }
                from = to;
            }
            found.add(g);
        }
        return found;
    }

    /** The griefs of one, gone through up to and with a day; position in days is kept by removing from the front. */
    private final class Life {
        final int a;
        final int known;
        final List<Grief> griefs;
        final int[] done;
        int next;

        Life(int a, int known) {
            this.a = a;
            this.known = known;
            griefs = griefs(a, known);
            done = new int[griefs.size()];
            next = LAST + 2;
            for (Grief g : griefs) {
                next = Math.min(next, g.begin);
            }
        }

        int depthOf(int i) {
            return griefs.get(i).days.get(done[i]);
        }

        boolean isOn(int i, int day) {
            return !griefs.get(i).over && griefs.get(i).begin <= day;
        }

        /** Day "next" begins: weddings; then it is the day of the state. Behind it all go on. */
        private void beginDay(int day) {
            Law law = lawOf(day, known);
            boolean weds = false;
            for (Marriage m : marriages) {
                weds |= m.told <= known && m.day == day && (m.a == a || m.b == a);
            }
            for (int i = 0; i < done.length; i++) {
                if (weds && law != null && isOn(i, day) && depthOf(i) <= law.wedding) {
                    griefs.get(i).over = true;
                }
                if (isOn(i, day)) {
                    griefs.get(i).everOn = true;
                    griefs.get(i).lastOn = day;
                }
            }
        }

        int deepest(int day) {
            int deepest = 0;
            for (int i = 0; i < done.length; i++) {
                if (isOn(i, day)) {
                    deepest = Math.max(deepest, depthOf(i));
                }
            }
            return deepest;
        }

        private void endDay(int day) {
            int deepest = deepest(day);
            for (int i = 0; i < done.length; i++) {
                Grief g = griefs.get(i);
                if (isOn(i, day) && (!g.rule.options.contains("wait") || depthOf(i) == deepest)) {
                    done[i]++;
                    if (done[i] == g.days.size()) {
                        done[i]--;
                        g.over = true;
                    }
                }
            }
        }

        /** Goes on until the state is that of a day. */
        void until(int day) {
            while (next <= day) {
                if (started) {
                    endDay(next - 1);
                }
                started = true;
                beginDay(next);
                next++;
            }
        }

        private boolean started = false;

        int depth(int day) {
            Death own = deaths[a];
            if (people.get(a).told > known || day < people.get(a).born || own != null && own.told <= known && own.day < day) {
                return NONE;
            }
            until(day);
            Law law = lawOf(day, known);
            int depth = 0;
            for (int i = 0; i < done.length; i++) {
                if (!isOn(i, day)) {
                    continue;
                }
                int left = depthOf(i);
                if (!griefs.get(i).rule.options.contains("firm") && law != null) {
                    left = lighter(law, day, left);
                }
                depth = Math.max(depth, left);
            }
            for (Order o : orders) {
                if (o.told <= known && o.day <= day && day <= o.day + o.days - 1) {
                    depth = Math.max(depth, o.depth);
                }
            }
            if (law != null && law.underYears > 0
                && ChronoUnit.DAYS.between(local(people.get(a).born).plusYears(law.underYears), local(day)) < 0) {
                depth = Math.min(depth, law.underDepth);
            }
            return depth;
        }

        private int lighter(Law law, int day, int depth) {
            int left = depth;
            LocalDate date = local(day);
            for (Feast f : law.feasts) {
                if (f.month == date.getMonthValue() && f.day == date.getDayOfMonth()) {
                    left = Math.min(left, f.depth);
                }
            }
            if (law.heirDays > 0) {
                for (Person c : people) {
                    boolean child = c.father == a || c.mother == a;
                    if (child && c.told <= known && c.born <= day && day - c.born <= law.heirDays - 1) {
                        left = Math.min(left, law.heirDepth);
                    }
                }
            }
            return left;
        }

        boolean may(int act, int day) {
            int depth = depth(day);
            Law law = lawOf(day, known);
            if (depth == NONE) {
                return false;
            }
            return law == null || depth <= (law.may[act] == null ? 0 : law.may[act]);
        }
    }

    int depth(int a, int day, int known) {
        return has(a) && isDay(day) && isPast(known) ? new Life(a, known).depth(day) : NONE;
    }

    int last(int a, int d) {
        if (!has(a) || !has(d)) {
            return MIN;
        }
        Life life = new Life(a, now);
        life.until(LAST + 1);
        for (Grief g : life.griefs) {
            if (g.dead == d) {
                return g.everOn ? g.lastOn : MIN;
            }
        }
        return MIN;
    }

    int edge(int a, int day) {
        if (!has(a) || !isDay(day)) {
            return NONE;
        }
        Life life = new Life(a, now);
        int depth = life.depth(day);
        if (depth <= 0) {
            return depth;
        }
        for (Grief g : life.griefs) {
            if (day >= g.begin && day <= g.begin + 29) {
                return depth * 2 + 2;
            }
        }
        return depth * 2;
    }

    boolean may(int a, int act, int day, int known) {
        return has(a) && act >= 0 && act < 4 && isDay(day) && isPast(known) && new Life(a, known).may(act, day);
    }

    int deed(int a, int act) {
        if (act < 0 || act > 3 || deeds.size() == 100 || depth(a, now, now) == NONE) {
            return NONE;
        }
        deeds.add(new Deed(a, act, now));
        return deeds.size() - 1;
    }

    int stands(int deed, int what) {
        if (deed < 0 || deed >= deeds.size() || what < 0 || what > 3) {
            return NONE;
        }
        Deed d = deeds.get(deed);
        boolean then = may(d.who, d.act, d.day, d.day);
        boolean today = may(d.who, d.act, d.day, now);
        int how = then ? today ? 0 : 2 : today ? 3 : 1;
        return new int[] {d.who, d.act, d.day, how}[what];
    }

    int best(int act, int from, int to, int what) {
        if (act < 0 || act > 3 || !isDay(from) || !isDay(to) || to < from || to - from + 1 > 60 || what < 0 || what > 1) {
            return MIN;
        }
        int[] counts = new int[to - from + 1];
        for (int a = 0; a < people.size(); a++) {
            Life life = new Life(a, now);
            for (int day = from; day <= to; day++) {
                if (life.may(act, day)) {
                    counts[day - from]++;
                }
            }
        }
        int best = 0;
        for (int i = 0; i < counts.length; i++) {
            if (counts[i] > counts[best]) {
                best = i;
            }
        }
        return what == 0 ? from + best : counts[best];
    }

    int first(int a, int act, int from) {
        if (!has(a) || act < 0 || act > 3 || !isDay(from)) {
            return MIN;
        }
        Life life = new Life(a, now);
        for (int day = from; day <= from + 3000 && day <= LAST; day++) {
            if (life.may(act, day)) {
                return day;
            }
        }
        return MIN;
    }

    // ---- wardrobe ----
    private int inMaking() {
        int n = 0;
        for (Task t : tasks) {
            if (t.dress == NONE) {
                n++;
            }
        }
        return n;
    }

    private static boolean canBe(int size, int stuff) {
        return size >= 0 && size <= 4 && stuff >= 0 && stuff <= 4;
    }

    int dress(int size, int stuff) {
        if (!canBe(size, stuff) || dresses.size() + inMaking() >= 40) {
            return NONE;
        }
        dresses.add(new Dress(size, stuff));
        return dresses.size() - 1;
    }

    int cloth(int stuff, int n) {
        if (stuff < 0 || stuff > 4 || n < 1 || n > 99 || cloths[stuff] + n > 999) {
            return NONE;
        }
        return cloths[stuff] += n;
    }

    boolean hands(int n) {
        if (n < 0 || n > 4) {
            return false;
        }
        hands = n;
        return true;
    }

    int dye(int dress, int stuff) {
        if (dress < 0 || dress >= dresses.size() || tasks.size() == 20 || stuff > 4) {
            return NONE;
        }
        Dress d = dresses.get(dress);
        if (!d.there || stuff <= d.stuff) {
            return NONE;
        }
        d.there = false;
        tasks.add(new Task(dress, d.size, stuff, 2));
        return tasks.size();
    }

    int make(int size, int stuff) {
        if (!canBe(size, stuff) || cloths[stuff] == 0 || tasks.size() == 20 || dresses.size() + inMaking() + 1 > 40) {
            return NONE;
        }
        cloths[stuff]--;
        tasks.add(new Task(NONE, size, stuff, 3));
        return tasks.size();
    }

    int go(int n) {
        if (n < 0 || n > 2000) {
            return NONE;
        }
        for (int i = 0; i < n && now < LAST; i++) {
            now++;
            for (int t = 0; t < hands && t < tasks.size(); t++) {
                tasks.get(t).left--;
            }
            List<Task> done = new ArrayList<>();
            for (Task t : tasks) {
                if (t.left == 0) {
                    done.add(t);
                }
            }
            tasks.removeAll(done);
            for (Task t : done) {
                if (t.dress == NONE) {
                    dresses.add(new Dress(t.size, t.stuff));
                } else {
                    dresses.get(t.dress).stuff = t.stuff;
                    dresses.get(t.dress).there = true;
                }
            }
        }
        return now;
    }

    private record Choice(int way, int dress) { }

    private List<Choice> bestChoices;
    private int bestCost;

    private List<Choice> choices(int bits, int f) {
        if (bits <= 0 || Integer.bitCount(bits) > 5 || f < now || f > now + 100 || f > LAST) {
            return null;
        }
        List<Integer> who = new ArrayList<>();
        for (int p = 0; p < 31; p++) {
            if ((bits >> p & 1) == 1) {
                if (!has(p) || deaths[p] != null) {
                    return null;
                }
                who.add(p);
            }
        }
        int[] needs = new int[who.size()];
        for (int i = 0; i < needs.length; i++) {
            needs[i] = depth(who.get(i), f, now);
        }
        bestChoices = null;
        bestCost = Integer.MAX_VALUE;
        choose(who, needs, f, new ArrayList<>());
        return bestChoices;
    }

    private void choose(List<Integer> who, int[] needs, int f, List<Choice> sofar) {
        int i = sofar.size();
        if (i == needs.length) {
            int cost = 0;
            for (Choice c : sofar) {
                cost += new int[] {0, 0, 1, 10, 100}[c.way];
            }
            if (cost < bestCost && isInTime(sofar, f)) {
                bestCost = cost;
                bestChoices = new ArrayList<>(sofar);
            }
            return;
        }
        List<Choice> ways = new ArrayList<>();
        if (needs[i] == 0) {
            ways.add(new Choice(0, NONE));
        } else {
            for (int stuff = needs[i]; stuff >= 0; stuff--) {
                for (int d = 0; d < dresses.size(); d++) {
                    Dress dress = dresses.get(d);
                    boolean taken = sofar.contains(new Choice(1, d)) || sofar.contains(new Choice(2, d));
                    if (dress.there && !taken && dress.stuff == stuff && dress.size == people.get(who.get(i)).size) {
                        ways.add(new Choice(stuff == needs[i] ? 1 : 2, d));
                        break;
                    }
                }
            }
            int used = 0;
            for (int j = 0; j < i; j++) {
                if (sofar.get(j).way == 3 && needs[j] == needs[i]) {
                    used++;
                }
            }
            if (cloths[needs[i]] > used) {
                ways.add(new Choice(3, NONE));
            }
            ways.add(new Choice(4, NONE));
        }
        for (Choice way : ways) {
            sofar.add(way);
            choose(who, needs, f, sofar);
            sofar.remove(sofar.size() - 1);
        }
    }

    private boolean isInTime(List<Choice> choices, int f) {
        List<int[]> row = new ArrayList<>();
        for (Task t : tasks) {
            row.add(new int[] {t.left, 0});
        }
        int mine = 0;
        for (Choice c : choices) {
            if (c.way == 2 || c.way == 3) {
                row.add(new int[] {c.way, 1});
                mine++;
            }
        }
        for (int day = now; day < f && mine > 0; day++) {
            for (int t = 0; t < hands && t < row.size(); t++) {
                row.get(t)[0]--;
            }
            for (int t = row.size() - 1; t >= 0; t--) {
                if (row.get(t)[0] == 0) {
                    mine -= row.remove(t)[1];
                }
            }
        }
        return mine == 0;
    }

    int plan(int bits, int f, int k) {
        List<Choice> c = choices(bits, f);
        return c == null || k < 0 || k >= c.size() ? NONE : c.get(k).way;
    }

    int planned(int bits, int f, int k) {
        List<Choice> c = choices(bits, f);
        return c == null || k < 0 || k >= c.size() ? NONE : c.get(k).dress;
    }

    int worn(int dress, int what) {
        if (dress < 0 || dress >= dresses.size() || what < 0 || what > 2) {
            return NONE;
        }
        Dress d = dresses.get(dress);
        return what == 0 ? d.size : what == 1 ? d.stuff : d.there ? 1 : 0;
    }

    int told(int p, int what) {
        if (!has(p) || what < 0 || what > 6) {
            return MIN;
        }
        Person x = people.get(p);
        if (what > 4) {
            return deaths[p] == null ? MIN : what == 5 ? deaths[p].day : deaths[p].told;
        }
        if (what == 2 && x.father == NONE || what == 3 && x.mother == NONE) {
            return MIN;
        }
        return new int[] {x.sex, x.size, x.father, x.mother, x.born}[what];
    }

    int count(int what) {
        if (what < 0 || what > 14) {
            return NONE;
        }
        return what >= 10 ? cloths[what - 10] : new int[] {now, people.size(), laws.size(), marriages.size(),
            orders.size(), deeds.size(), dresses.size(), tasks.size(), hands, text.length()}[what];
    }
}
