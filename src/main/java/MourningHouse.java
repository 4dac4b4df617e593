/** A steward's book of mourning; README.md tells how it is used, NOTES.md how it is built. */
public final class MourningHouse {
    public static final int NONE = -1;

    private static final int NO_ANSWER = -2147483648;
    private static final int NEVER = 2147483647;
    private static final int MOST_DEEDS = 100;
    private static final int ACTS = 4;
    private static final int MOST_CHOICES = 60;
    private static final int FURTHEST_FIRST = 3000;
    private static final int LONGEST_GO = 2000;
    private static final int MOST_MONTHS = 12000;

    private final Reader reader;
    private final Page page;
    private final Decrees decrees;
    private final Family family;
    private final Mourner mourner;
    private final Wardrobe wardrobe;
    private final Planner planner;
    private final int[] deedWho;
    private final int[] deedAct;
    private final int[] deedDay;
    private final int[] allowed;
    private int deeds;
    private int now;

    public MourningHouse() {
        reader = new Reader();
        page = new Page();
        decrees = new Decrees();
        family = new Family();
        mourner = new Mourner(family, decrees);
        wardrobe = new Wardrobe();
        planner = new Planner(wardrobe);
        deedWho = new int[MOST_DEEDS];
        deedAct = new int[MOST_DEEDS];
        deedDay = new int[MOST_DEEDS];
        allowed = new int[MOST_CHOICES];
        deeds = 0;
        now = 0;
    }

    // ---- The text and its laws ----

    public int feed(int a, int b, int c, int d, int e) {
        if (!reader.hasRoom()) {
            return NONE;
        }
        reader.append(a);
        reader.append(b);
        reader.append(c);
        reader.append(d);
        reader.append(e);
        return reader.size;
    }

    public boolean end(int n) {
        if (n < 0 || n > reader.size) {
            return false;
        }
        reader.size = n;
        return true;
    }

    public int take() {
        Law law = decrees.blankLaw();
        if (law == null) {
            return NONE;
        }
        boolean sound = reader.readInto(law);
        reader.size = 0;
        if (!sound) {
            return NONE;
        }
        decrees.enact(law, now);
        return law.rules;
    }

    public int fault(int what) {
        switch (what) {
            case 0:
                return reader.faultLine;
            case 1:
                return reader.faultToken;
            case 2:
                return reader.faultKind;
            default:
                return NONE;
        }
    }

    public int write(int law, int i) {
        Law chosen = decrees.lawNumbered(law);
        if (chosen == null || !chosen.hasRule(i)) {
            return NONE;
        }
        chosen.spell(i, page);
        return page.size;
    }

    public int out(int i) {
        return page.has(i) ? page.bytes[i] : NONE;
    }

    public int quarrel(int law, int i) {
        Law chosen = decrees.lawNumbered(law);
        if (chosen == null || i < 0) {
            return NONE;
        }
        return chosen.quarrelNumbered(i);
    }

    // ---- The calendar ----

    public int date(int day) {
        return Calendar.has(day) ? Calendar.dateOf(day) : NONE;
    }

    public int day(int date) {
        return Calendar.hasDate(date) ? Calendar.dayOf(date / 10000, date / 100 % 100, date % 100) : NO_ANSWER;
    }

    public int months(int day, int months) {
        if (!Calendar.has(day) || months < 0 || months > MOST_MONTHS) {
            return NO_ANSWER;
        }
        int later = Calendar.later(day, months);
        return Calendar.has(later) ? later : NO_ANSWER;
    }

    public int go(int n) {
        if (n < 0 || n > LONGEST_GO) {
            return NONE;
        }
        int later = Math.min(now + n, Calendar.LAST);
        wardrobe.work(later - now);
        now = later;
        return now;
    }

    // ---- People, marriages, deaths and the court ----

    public int person(int who, int father, int mother, int born) {
        if (!isPast(born) || !family.hasPlaceFor(who, father, mother, born)) {
            return NONE;
        }
        return family.add(who, father, mother, born, now);
    }

    public boolean death(int person, int day) {
        if (!isPast(day) || !family.has(person) || family.isToldDead(person) || day < family.born[person]) {
            return false;
        }
        family.bury(person, day, now);
        return true;
    }

    public int wed(int a, int b, int day) {
        if (!isPast(day) || !family.canMarry(a, b, day)) {
            return NONE;
        }
        return family.marry(a, b, day, now);
    }

    public int court(int day, int days, int depth) {
        if (!Calendar.has(day) || !decrees.canOrder(days, depth)) {
            return NONE;
        }
        return decrees.order(day, days, depth, now);
    }

    public boolean kin(int rule, int a, int d, int day) {
        Law law = decrees.lawNumbered(decrees.laws - 1);
        if (law == null || !law.hasRule(rule) || !family.has(a) || !family.has(d) || !Calendar.has(day)) {
            return false;
        }
        family.gather(day, now);
        return family.isKin(law, rule, a, d);
    }

    // ---- Mourning ----

    public int mourns(int a, int d, int known) {
        if (!family.has(a) || !family.has(d) || !isPast(known)) {
            return NONE;
        }
        return mourner.ruleFor(a, d, known);
    }

    public int depth(int a, int day, int known) {
        if (!family.has(a) || !Calendar.has(day) || !isPast(known)) {
            return NONE;
        }
        mourner.study(a, known);
        return mourner.depthOn(day);
    }

    public int last(int a, int d) {
        if (!family.has(a) || !family.has(d)) {
            return NO_ANSWER;
        }
        mourner.study(a, now);
        return mourner.lastDayFor(d);
    }

    public int edge(int a, int day) {
        if (!family.has(a) || !Calendar.has(day)) {
            return NONE;
        }
        mourner.study(a, now);
        return mourner.edgeOn(day);
    }

    // ---- Acts ----

    public boolean may(int a, int act, int day, int known) {
        if (!family.has(a) || !isAct(act) || !Calendar.has(day) || !isPast(known)) {
            return false;
        }
        mourner.study(a, known);
        return mourner.isAllowed(act, day);
    }

    public int deed(int a, int act) {
        if (!family.has(a) || !isAct(act) || deeds >= MOST_DEEDS) {
            return NONE;
        }
        mourner.study(a, now);
        if (mourner.depthOn(now) == NONE) {
            return NONE;
        }
        deedWho[deeds] = a;
        deedAct[deeds] = act;
        deedDay[deeds] = now;
        deeds++;
        return deeds - 1;
    }

    public int stands(int deed, int what) {
        if (deed < 0 || deed >= deeds) {
            return NONE;
        }
        switch (what) {
            case 0:
                return deedWho[deed];
            case 1:
                return deedAct[deed];
            case 2:
                return deedDay[deed];
            case 3:
                return standing(deed);
            default:
                return NONE;
        }
    }

    public int best(int act, int from, int to, int what) {
        if (!isAct(act) || !isChoice(from, to) || what < 0 || what > 1) {
            return NO_ANSWER;
        }
        countAllowed(act, from, to);
        int day = from;
        for (int other = from + 1; other <= to; other++) {
            if (allowed[other - from] > allowed[day - from]) {
                day = other;
            }
        }
        return what == 0 ? day : allowed[day - from];
    }

    public int first(int a, int act, int from) {
        if (!family.has(a) || !isAct(act) || !Calendar.has(from)) {
            return NO_ANSWER;
        }
        mourner.study(a, now);
        int to = Math.min(from + FURTHEST_FIRST, Calendar.LAST);
        for (int day = from; day <= to; day++) {
            if (mourner.isAllowed(act, day)) {
                return day;
            }
        }
        return NO_ANSWER;
    }

    // ---- The wardrobe ----

    public int dress(int size, int stuff) {
        return wardrobe.canHang(size, stuff) ? wardrobe.hang(size, stuff) : NONE;
    }

    public int cloth(int stuff, int n) {
        return wardrobe.canStore(stuff, n) ? wardrobe.store(stuff, n) : NONE;
    }

    public boolean hands(int n) {
        if (n < 0 || n > Wardrobe.MOST_HANDS) {
            return false;
        }
        wardrobe.hands = n;
        return true;
    }

    public int dye(int dress, int stuff) {
        return wardrobe.canDye(dress, stuff) ? wardrobe.startDye(dress, stuff) : NONE;
    }

    public int make(int size, int stuff) {
        return wardrobe.canMake(size, stuff) ? wardrobe.startMake(size, stuff) : NONE;
    }

    public int plan(int people, int f, int k) {
        return isPlanned(people, f, k) ? planner.wayOf(k) : NONE;
    }

    public int planned(int people, int f, int k) {
        return isPlanned(people, f, k) ? planner.dressOf(k) : NONE;
    }

    // ---- What stands in the book ----

    public int worn(int dress, int what) {
        if (!wardrobe.has(dress)) {
            return NONE;
        }
        switch (what) {
            case 0:
                return wardrobe.sizes[dress];
            case 1:
                return wardrobe.stuffs[dress];
            case 2:
                return wardrobe.away[dress] ? 0 : 1;
            default:
                return NONE;
        }
    }

    public int told(int person, int what) {
        return family.has(person) ? family.factOf(person, what) : NO_ANSWER;
    }

    public int count(int what) {
        switch (what) {
            case 0:
                return now;
            case 1:
                return family.people;
            case 2:
                return decrees.laws;
            case 3:
                return family.marriages;
            case 4:
                return decrees.orders;
            case 5:
                return deeds;
            case 6:
                return wardrobe.dresses;
            case 7:
                return wardrobe.tasks;
            case 8:
                return wardrobe.hands;
            case 9:
                return reader.size;
            default:
                return what < 10 ? NONE : wardrobe.clothsOf(what - 10);
        }
    }

    // ---- Helpers of the face ----

    private boolean isPast(int day) {
        return Calendar.has(day) && day <= now;
    }

    private static boolean isAct(int act) {
        return act >= 0 && act < ACTS;
    }

    private static boolean isChoice(int from, int to) {
        return Calendar.has(from) && Calendar.has(to) && from <= to && to - from < MOST_CHOICES;
    }

    private int standing(int deed) {
        int day = deedDay[deed];
        mourner.study(deedWho[deed], day);
        boolean then = mourner.isAllowed(deedAct[deed], day);
        mourner.study(deedWho[deed], now);
        boolean today = mourner.isAllowed(deedAct[deed], day);
        if (then == today) {
            return then ? 0 : 1;
        }
        return then ? 2 : 3;
    }

    private void countAllowed(int act, int from, int to) {
        for (int i = 0; i < MOST_CHOICES; i++) {
            allowed[i] = 0;
        }
        for (int a = 0; a < family.people; a++) {
            mourner.study(a, now);
            for (int day = from; day <= to; day++) {
                if (mourner.isAllowed(act, day)) {
                    allowed[day - from]++;
                }
            }
        }
    }

    /** Whether such a plan can be asked, and has a k-th one; it is worked out then. */
    private boolean isPlanned(int people, int f, int k) {
        int count = Integer.bitCount(people);
        if (people <= 0 || count > Planner.MOST || k < 0 || k >= count || !family.areAlive(people)) {
            return false;
        }
        if (f < now || f > now + Planner.FURTHEST || !Calendar.has(f)) {
            return false;
        }
        planner.open(f - now);
        for (int who = 0; who < family.people && who < Planner.NUMBERED; who++) {
            if ((people >> who & 1) != 0) {
                mourner.study(who, now);
                planner.add(family.sizes[who], mourner.depthOn(f));
            }
        }
        planner.solve();
        return true;
    }

    /** Days and dates; days behind the last one are worked out too, as lengths may end there. */
    private static final class Calendar {
        static final int FIRST = -36524;
        static final int LAST = 73047;
        private static final int FIRST_YEAR = 1700;
        private static final int LAST_YEAR = 1999;
        private static final int CYCLE_YEARS = 400;
        private static final int CYCLE_DAYS = 146097;
        // From the first of March of the year 0, so that a leap day is the last one of its year.
        private static final int DAYS_AHEAD = 657377;

        static boolean has(int day) {
            return day >= FIRST && day <= LAST;
        }

        static boolean hasDate(int date) {
            if (date < FIRST_YEAR * 10000) {
                return false;
            }
            int year = date / 10000;
            int month = date / 100 % 100;
            int dayOfMonth = date % 100;
            return year <= LAST_YEAR && month >= 1 && month <= 12
                && dayOfMonth >= 1 && dayOfMonth <= lengthOf(year, month);
        }

        static int lengthOf(int year, int month) {
            switch (month) {
                case 2:
                    return year % 4 == 0 && (year % 100 != 0 || year % 400 == 0) ? 29 : 28;
                case 4:
                case 6:
                case 9:
                case 11:
                    return 30;
                default:
                    return 31;
            }
        }

        static int dayOf(int year, int month, int dayOfMonth) {
            int fromMarch = month > 2 ? month - 3 : month + 9;
            int marchYear = month > 2 ? year : year - 1;
            int cycle = marchYear / CYCLE_YEARS;
            int yearInCycle = marchYear % CYCLE_YEARS;
            int dayOfYear = (153 * fromMarch + 2) / 5 + dayOfMonth - 1;
            int dayInCycle = yearInCycle * 365 + yearInCycle / 4 - yearInCycle / 100 + dayOfYear;
            return cycle * CYCLE_DAYS + dayInCycle - DAYS_AHEAD;
        }

        static int dateOf(int day) {
            int days = day + DAYS_AHEAD;
            int cycle = days / CYCLE_DAYS;
            int dayInCycle = days % CYCLE_DAYS;
            int yearInCycle = (dayInCycle - dayInCycle / 1460 + dayInCycle / 36524 - dayInCycle / 146096) / 365;
            int dayOfYear = dayInCycle - (365 * yearInCycle + yearInCycle / 4 - yearInCycle / 100);
            int fromMarch = (5 * dayOfYear + 2) / 153;
            int dayOfMonth = dayOfYear - (153 * fromMarch + 2) / 5 + 1;
            int month = fromMarch < 10 ? fromMarch + 3 : fromMarch - 9;
            int year = cycle * CYCLE_YEARS + yearInCycle + (month > 2 ? 0 : 1);
            return year * 10000 + month * 100 + dayOfMonth;
        }

        static int later(int day, int months) {
            int date = dateOf(day);
            int month = date / 10000 * 12 + date / 100 % 100 - 1 + months;
            int year = month / 12;
            int monthOfYear = month % 12 + 1;
            return dayOf(year, monthOfYear, Math.min(date % 100, lengthOf(year, monthOfYear)));
        }
    }

    /** The words of texts by numbers, and the numbers of their other tokens. */
    private static final class Words {
        // Kin by threes: anybody, the men, the women.
        static final int SPOUSE = 0;
        static final int CHILD = 3;
        static final int PARENT = 6;
        static final int SISTER = 11;
        // Colours in the order of their depths.
        static final int COLOURS = 12;
        static final int CRAPE = 16;
        static final int DAYS = 17;
        static final int WEEKS = 18;
        static final int MONTHS = 19;
        static final int YEARS = 20;
        static final int CALL = 21;
        static final int WED = 24;
        // Options in the order in which they are written.
        static final int MEN = 25;
        static final int NEWS = 28;
        static final int HALF = 29;
        static final int FOR = 30;
        static final int OF = 31;
        static final int MAY = 32;
        static final int FROM = 33;
        static final int FEAST = 34;
        static final int TO = 35;
        static final int HEIR = 36;
        static final int UNDER = 37;
        static final int WEDDING = 38;
        static final int ENDS = 39;
        static final int KNOWN_WORDS = 40;
        static final int UNKNOWN = 40;
        static final int NUMBER = 41;
        static final int COLON = 42;
        static final int COMMA = 43;
        static final int SEMICOLON = 44;
        static final int POINT = 45;
        static final int OVER = 46;
        static final int STRANGE = 47;

        static String nameOf(int code) {
            return code <= CRAPE ? kinOrColour(code) : code <= NEWS ? termOrOption(code) : lineWord(code);
        }

        private static String kinOrColour(int code) {
            switch (code) {
                case SPOUSE:
                    return "spouse";
                case 1:
                    return "husband";
                case 2:
                    return "wife";
                case CHILD:
                    return "child";
                case 4:
                    return "son";
                case 5:
                    return "daughter";
                case PARENT:
                    return "parent";
                case 7:
                    return "father";
                case 8:
                    return "mother";
                case 9:
                    return "sibling";
                case 10:
                    return "brother";
                case SISTER:
                    return "sister";
                case COLOURS:
                    return "colours";
                case 13:
                    return "lilac";
                case 14:
                    return "grey";
                case 15:
                    return "black";
                default:
                    return "crape";
            }
        }

        private static String termOrOption(int code) {
            switch (code) {
                case DAYS:
                    return "days";
                case WEEKS:
                    return "weeks";
                case MONTHS:
                    return "months";
                case YEARS:
                    return "years";
                case CALL:
                    return "call";
                case 22:
                    return "dine";
                case 23:
                    return "dance";
                case WED:
                    return "wed";
                case MEN:
                    return "men";
                case 26:
                    return "wait";
                case 27:
                    return "firm";
                default:
                    return "news";
            }
        }

        private static String lineWord(int code) {
            switch (code) {
                case HALF:
                    return "half";
                case FOR:
                    return "for";
                case OF:
                    return "of";
                case MAY:
                    return "may";
                case FROM:
                    return "from";
                case FEAST:
                    return "feast";
                case TO:
                    return "to";
                case HEIR:
                    return "heir";
                case UNDER:
                    return "under";
                case WEDDING:
                    return "wedding";
                default:
                    return "ends";
            }
        }

        static int codeOf(char[] bytes, int from, int to) {
            for (int code = 0; code < KNOWN_WORDS; code++) {
                if (isAt(nameOf(code), bytes, from, to)) {
                    return code;
                }
            }
            return UNKNOWN;
        }

        private static boolean isAt(String name, char[] bytes, int from, int to) {
            if (name.length() != to - from) {
                return false;
            }
            for (int i = 0; i < name.length(); i++) {
                if (name.charAt(i) != bytes[from + i]) {
                    return false;
                }
            }
            return true;
        }

        static int signOf(char sign) {
            switch (sign) {
                case ':':
                    return COLON;
                case ',':
                    return COMMA;
                case ';':
                    return SEMICOLON;
                case '.':
                    return POINT;
                default:
                    return STRANGE;
            }
        }

        static boolean isKin(int code) {
            return code >= SPOUSE && code <= SISTER;
        }

        /** Whether it is a stuff of mourning, colours not being one. */
        static boolean isMourning(int code) {
            return code > COLOURS && code <= CRAPE;
        }

        static boolean isStuff(int code) {
            return code >= COLOURS && code <= CRAPE;
        }

        static boolean isUnit(int code) {
            return code >= DAYS && code <= YEARS;
        }

        static boolean isAct(int code) {
            return code >= CALL && code <= WED;
        }

        static boolean isOption(int code) {
            return code >= MEN && code <= NEWS;
        }
    }

    /** The text that is fed, and the reading of it, line by line, into a law. */
    private static final class Reader {
        private static final int MOST_BYTES = 3000;
        private static final int FED = 20;
        // A line without a fault has fewer tokens, so that no further one is ever looked at.
        private static final int MOST_TOKENS = 64;
        private static final int TOO_LARGE = 100000;
        private static final int LINE_END = 10;
        private static final int STRANGE_BYTE = 1;
        private static final int MISPLACED = 2;
        private static final int WRONG_NUMBER = 3;
        private static final int NOT_LIGHTER = 4;
        private static final int TWICE = 5;
        private static final int TOO_MANY = 6;

        private final char[] bytes = new char[MOST_BYTES];
        private final int[] codes = new int[MOST_TOKENS];
        private final int[] values = new int[MOST_TOKENS];
        int size = 0;
        int faultLine = 0;
        int faultToken = 0;
        int faultKind = 0;
        private int line = 0;
        private int tokens = 0;
        private int at = 0;

        boolean hasRoom() {
            return size <= MOST_BYTES - FED;
        }

        void append(int number) {
            for (int shift = 24; shift >= 0; shift -= 8) {
                if (size < MOST_BYTES) {
                    bytes[size] = (char) (number >> shift & 255);
                    size++;
                }
            }
        }

        /** Whether the text has no fault; else the first one stands in the fault's fields. */
        boolean readInto(Law law) {
            faultLine = 0;
            faultToken = 0;
            faultKind = 0;
            law.clear();
            line = 0;
            int start = 0;
            for (int i = 0; i <= size; i++) {
                if (i == size || bytes[i] == LINE_END) {
                    line++;
                    if (!readLine(law, start, i)) {
                        return false;
                    }
                    start = i + 1;
                }
            }
            return true;
        }

        private boolean readLine(Law law, int start, int stop) {
            at = 0;
            if (!findTokens(start, stop)) {
                at = tokens;
                return fail(STRANGE_BYTE);
            }
            switch (codeAt(0)) {
                case Words.OVER:
                    return true;
                case Words.FOR:
                    return readRule(law);
                case Words.MAY:
                    return readMay(law);
                case Words.FEAST:
                    return readFeast(law);
                case Words.HEIR:
                    return readHeir(law);
                case Words.UNDER:
                    return readUnder(law);
                case Words.WEDDING:
                    return readWedding(law);
                default:
                    return fail(MISPLACED);
            }
        }

        private boolean fail(int kind) {
            faultLine = line;
            faultToken = at + 1;
            faultKind = kind;
            return false;
        }

        // ---- Tokens ----

        /** Whether every byte of the line begins or goes on with a token, up to its remark. */
        private boolean findTokens(int start, int stop) {
            tokens = 0;
            int to = start;
            for (int from = start; from < stop && bytes[from] != '#'; from = Math.max(to, from + 1)) {
                if (bytes[from] == ' ') {
                    continue;
                }
                to = endOfToken(from, stop);
                int code = kindOf(from, to);
                if (code == Words.STRANGE) {
                    return false;
                }
                keepToken(code, from, to);
            }
            return true;
        }

        private int endOfToken(int from, int stop) {
            int to = from + 1;
            if (isLetter(bytes[from])) {
                while (to < stop && isLetter(bytes[to])) {
                    to++;
                }
            } else if (isDigit(bytes[from])) {
                while (to < stop && isDigit(bytes[to])) {
                    to++;
                }
            }
            return to;
        }

        private int kindOf(int from, int to) {
            char sign = bytes[from];
            if (isLetter(sign)) {
                return Words.codeOf(bytes, from, to);
            }
            return isDigit(sign) ? Words.NUMBER : Words.signOf(sign);
        }

        private void keepToken(int code, int from, int to) {
            if (tokens < MOST_TOKENS) {
                codes[tokens] = code;
                values[tokens] = code == Words.NUMBER ? valueOf(from, to) : 0;
            }
            tokens++;
        }

        private int valueOf(int from, int to) {
            int value = 0;
            for (int i = from; i < to; i++) {
                value = Math.min(value * 10 + bytes[i] - '0', TOO_LARGE);
            }
            return value;
        }

        private static boolean isLetter(char sign) {
            return sign >= 'a' && sign <= 'z';
        }

        private static boolean isDigit(char sign) {
            return sign >= '0' && sign <= '9';
        }

        private int codeAt(int token) {
            return token >= 0 && token < tokens && token < MOST_TOKENS ? codes[token] : Words.OVER;
        }

        private int value() {
            return at >= 0 && at < tokens && at < MOST_TOKENS ? values[at] : 0;
        }

        // ---- Lines: each of these looks at the token at "at" and goes on behind it ----

        private boolean expect(int code) {
            if (codeAt(at) != code) {
                return fail(MISPLACED);
            }
            at++;
            return true;
        }

        private boolean expectNumber(int least, int most) {
            if (codeAt(at) != Words.NUMBER) {
                return fail(MISPLACED);
            }
            if (value() < least || value() > most) {
                return fail(WRONG_NUMBER);
            }
            at++;
            return true;
        }

        /** The stuff that a line is over with. */
        private boolean expectStuff() {
            if (!Words.isStuff(codeAt(at))) {
                return fail(MISPLACED);
            }
            at++;
            return expect(Words.OVER);
        }

        private int depthAt(int token) {
            return codeAt(token) - Words.COLOURS;
        }

        private boolean readRule(Law law) {
            if (!law.hasRoomForRule()) {
                return fail(TOO_MANY);
            }
            law.openRule();
            return readKin(law) && readParts(law) && readOptions(law);
        }

        private boolean readKin(Law law) {
            do {
                at++;
                if (!Words.isKin(codeAt(at))) {
                    return fail(MISPLACED);
                }
                if (!law.addKin(codeAt(at))) {
                    return fail(TOO_MANY);
                }
                at++;
            } while (at < tokens && codeAt(at) == Words.OF);
            return codeAt(at) == Words.COLON || fail(MISPLACED);
        }

        private boolean readParts(Law law) {
            do {
                at++;
                if (!readPart(law)) {
                    return false;
                }
            } while (at < tokens && codeAt(at) == Words.COMMA);
            return true;
        }

        private boolean readPart(Law law) {
            int stuff = at;
            if (!Words.isMourning(codeAt(stuff))) {
                return fail(MISPLACED);
            }
            if (!law.hasRoomForPart()) {
                return fail(TOO_MANY);
            }
            if (!law.isLighter(depthAt(stuff))) {
                return fail(NOT_LIGHTER);
            }
            at++;
            if (!expectNumber(1, 999)) {
                return false;
            }
            if (!Words.isUnit(codeAt(at))) {
                return fail(MISPLACED);
            }
            law.addPart(depthAt(stuff), values[stuff + 1], codeAt(at));
            at++;
            return true;
        }

        private boolean readOptions(Law law) {
            while (at < tokens && codeAt(at) == Words.SEMICOLON) {
                at++;
                int option = codeAt(at);
                if (!Words.isOption(option)) {
                    return fail(MISPLACED);
                }
                if (!law.addOption(option - Words.MEN)) {
                    return fail(TWICE);
                }
                at++;
                if (option == Words.MEN && !expect(Words.HALF)) {
                    return false;
                }
            }
            return expect(Words.OVER);
        }

        private boolean readMay(Law law) {
            int act = codeAt(1) - Words.CALL;
            at = 1;
            if (!Words.isAct(codeAt(at))) {
                return fail(MISPLACED);
            }
            at++;
            if (!expect(Words.FROM) || !expectStuff()) {
                return false;
            }
            law.mayDepths[act] = depthAt(3);
            return true;
        }

        private boolean readFeast(Law law) {
            if (!law.hasRoomForFeast()) {
                return fail(TOO_MANY);
            }
            at = 1;
            if (!expectNumber(1, 12)) {
                return false;
            }
            int month = values[1];
            // Of a leap year, so that the 29th of February is one of them.
            if (!expect(Words.POINT) || !expectNumber(1, Calendar.lengthOf(0, month))
                || !expect(Words.TO) || !expectStuff()) {
                return false;
            }
            law.addFeast(month * 100 + values[3], depthAt(5));
            return true;
        }

        private boolean readHeir(Law law) {
            at = 1;
            if (!expectNumber(1, 400) || !expect(Words.DAYS) || !expect(Words.TO) || !expectStuff()) {
                return false;
            }
            law.heirDays = values[1];
            law.heirDepth = depthAt(4);
            return true;
        }

        private boolean readUnder(Law law) {
            at = 1;
            if (!expectNumber(1, 30) || !expect(Words.TO) || !expectStuff()) {
                return false;
            }
            law.underYears = values[1];
            law.underDepth = depthAt(3);
            return true;
        }

        private boolean readWedding(Law law) {
            at = 1;
            if (!expect(Words.ENDS) || !expectStuff()) {
                return false;
            }
            law.weddingDepth = depthAt(2);
            return true;
        }
    }

    /** What a text tells: rows of its rules and feasts; what isn't told is 0. */
    private static final class Law {
        private static final int MOST_RULES = 30;
        private static final int MOST_FEASTS = 8;
        static final int MOST = 4;
        static final int MEN_HALF = 0;
        static final int WAIT = 1;
        static final int FIRM = 2;
        static final int NEWS = 3;

        private final int[] kinCounts = new int[MOST_RULES];
        private final int[] kinWords = new int[MOST_RULES * MOST];
        private final int[] partCounts = new int[MOST_RULES];
        private final int[] partDepths = new int[MOST_RULES * MOST];
        private final int[] partNumbers = new int[MOST_RULES * MOST];
        private final int[] partUnits = new int[MOST_RULES * MOST];
        private final int[] options = new int[MOST_RULES];
        private final int[] feastDates = new int[MOST_FEASTS];
        private final int[] feastDepths = new int[MOST_FEASTS];
        final int[] mayDepths = new int[ACTS];
        int rules = 0;
        private int feasts = 0;
        int heirDays = 0;
        int heirDepth = 0;
        int underYears = 0;
        int underDepth = 0;
        int weddingDepth = 0;
        int takenOn = 0;

        void clear() {
            rules = 0;
            feasts = 0;
            for (int act = 0; act < ACTS; act++) {
                mayDepths[act] = 0;
            }
            heirDays = 0;
            heirDepth = 0;
            underYears = 0;
            underDepth = 0;
            weddingDepth = 0;
        }

        // ---- The reader's side: the latest rule is the one that is told ----

        boolean hasRoomForRule() {
            return rules < MOST_RULES;
        }

        void openRule() {
            kinCounts[rules] = 0;
            partCounts[rules] = 0;
            options[rules] = 0;
            rules++;
        }

        boolean addKin(int word) {
            int count = kinCounts[rules - 1];
            if (count >= MOST) {
                return false;
            }
            kinWords[(rules - 1) * MOST + count] = word;
            kinCounts[rules - 1] = count + 1;
            return true;
        }

        boolean hasRoomForPart() {
            return partCounts[rules - 1] < MOST;
        }

        boolean isLighter(int depth) {
            int count = partCounts[rules - 1];
            return count == 0 || depth < partDepths[(rules - 1) * MOST + count - 1];
        }

        void addPart(int depth, int number, int unit) {
            int place = (rules - 1) * MOST + partCounts[rules - 1];
            partDepths[place] = depth;
            partNumbers[place] = number;
            partUnits[place] = unit;
            partCounts[rules - 1]++;
        }

        boolean addOption(int option) {
            int bit = 1 << option;
            if ((options[rules - 1] & bit) != 0) {
                return false;
            }
            options[rules - 1] |= bit;
            return true;
        }

        boolean hasRoomForFeast() {
            return feasts < MOST_FEASTS;
        }

        void addFeast(int monthAndDay, int depth) {
            feastDates[feasts] = monthAndDay;
            feastDepths[feasts] = depth;
            feasts++;
        }

        // ---- What it tells ----

        boolean hasRule(int rule) {
            return rule >= 0 && rule < rules;
        }

        int kinCount(int rule) {
            return kinCounts[rule];
        }

        int kinWord(int rule, int i) {
            return kinWords[rule * MOST + i];
        }

        int partCount(int rule) {
            return partCounts[rule];
        }

        int partDepth(int rule, int i) {
            return partDepths[rule * MOST + i];
        }

        boolean hasOption(int rule, int option) {
            return (options[rule] >> option & 1) != 0;
        }

        /** Where a part of a rule is over that begins on a day. */
        int endOfPart(int rule, int i, int day) {
            int number = partNumbers[rule * MOST + i];
            switch (partUnits[rule * MOST + i]) {
                case Words.DAYS:
                    return day + number;
                case Words.WEEKS:
                    return day + number * 7;
                case Words.MONTHS:
                    return Calendar.later(day, number);
                default:
                    return Calendar.later(day, number * 12);
            }
        }

        /** A depth, as far as the feasts of a date leave it. */
        int onFeasts(int depth, int date) {
            int left = depth;
            for (int i = 0; i < feasts; i++) {
                if (feastDates[i] == date % 10000) {
                    left = Math.min(left, feastDepths[i]);
                }
            }
            return left;
        }

        // ---- What is written of it ----

        void spell(int rule, Page page) {
            page.clear();
            page.addWord(Words.FOR);
            for (int i = 0; i < kinCounts[rule]; i++) {
                page.add(i == 0 ? " " : " of ");
                page.addWord(kinWord(rule, i));
            }
            for (int i = 0; i < partCounts[rule]; i++) {
                int place = rule * MOST + i;
                page.add(i == 0 ? ": " : ", ");
                page.addWord(Words.COLOURS + partDepths[place]);
                page.add(" ");
                page.addNumber(partNumbers[place]);
                page.add(" ");
                page.addWord(partUnits[place]);
            }
            for (int option = MEN_HALF; option <= NEWS; option++) {
                if (hasOption(rule, option)) {
                    page.add("; ");
                    page.addWord(Words.MEN + option);
                    page.add(option == MEN_HALF ? " half" : "");
                }
            }
        }

        int quarrelNumbered(int i) {
            int left = i;
            for (int one = 0; one < rules; one++) {
                for (int other = one + 1; other < rules; other++) {
                    if (isSameKin(one, other) && !isSameOtherwise(one, other)) {
                        if (left == 0) {
                            return one * 100 + other;
                        }
                        left--;
                    }
                }
            }
            return NONE;
        }

        private boolean isSameKin(int one, int other) {
            boolean same = kinCounts[one] == kinCounts[other];
            for (int i = 0; same && i < kinCounts[one]; i++) {
                same = kinWord(one, i) == kinWord(other, i);
            }
            return same;
        }

        private boolean isSameOtherwise(int one, int other) {
            boolean same = partCounts[one] == partCounts[other] && options[one] == options[other];
            for (int i = 0; same && i < partCounts[one]; i++) {
                int a = one * MOST + i;
                int b = other * MOST + i;
                same = partDepths[a] == partDepths[b] && partNumbers[a] == partNumbers[b]
                    && partUnits[a] == partUnits[b];
            }
            return same;
        }
    }

    /** The bytes of a rule that is written. */
    private static final class Page {
        // The longest rule has fewer bytes.
        private static final int MOST_BYTES = 256;

        final char[] bytes = new char[MOST_BYTES];
        int size = 0;

        boolean has(int i) {
            return i >= 0 && i < size;
        }

        void clear() {
            size = 0;
        }

        void add(String text) {
            for (int i = 0; i < text.length(); i++) {
                addByte(text.charAt(i));
            }
        }

        void addWord(int code) {
            add(Words.nameOf(code));
        }

        /** A number below 1000. */
        void addNumber(int number) {
            if (number >= 100) {
                addByte((char) ('0' + number / 100));
            }
            if (number >= 10) {
                addByte((char) ('0' + number / 10 % 10));
            }
            addByte((char) ('0' + number % 10));
        }

        private void addByte(char sign) {
            if (size < MOST_BYTES) {
                bytes[size] = sign;
                size++;
            }
        }
    }

    /** The laws and the court's orders, each with the day on which it came. */
    private static final class Decrees {
        private static final int MOST_LAWS = 6;
        private static final int MOST_ORDERS = 10;
        private static final int LONGEST_ORDER = 400;

        private final Law[] taken = new Law[MOST_LAWS];
        private final int[] orderDays = new int[MOST_ORDERS];
        private final int[] orderLengths = new int[MOST_ORDERS];
        private final int[] orderDepths = new int[MOST_ORDERS];
        private final int[] orderTold = new int[MOST_ORDERS];
        int laws = 0;
        int orders = 0;

        Decrees() {
            for (int i = 0; i < MOST_LAWS; i++) {
                taken[i] = new Law();
            }
        }

        /** The row of the next law, or null if all came. */
        Law blankLaw() {
            return laws < MOST_LAWS ? taken[laws] : null;
        }

        void enact(Law law, int now) {
            law.takenOn = now;
            laws++;
        }

        Law lawNumbered(int number) {
            return number >= 0 && number < laws ? taken[number] : null;
        }

        /** The law of a day as known, or null ahead of the first one. */
        Law lawOn(int day, int known) {
            for (int i = laws - 1; i >= 0; i--) {
                Law law = taken[i];
                if (law != null && law.takenOn <= day && law.takenOn <= known) {
                    return law;
                }
            }
            return null;
        }

        boolean canOrder(int days, int depth) {
            return depth >= 1 && depth <= Wardrobe.DARKEST && days >= 1 && days <= LONGEST_ORDER
                && orders < MOST_ORDERS;
        }

        int order(int day, int days, int depth, int now) {
            orderDays[orders] = day;
            orderLengths[orders] = days;
            orderDepths[orders] = depth;
            orderTold[orders] = now;
            orders++;
            return orders - 1;
        }

        int orderedDepth(int day, int known) {
            int depth = 0;
            for (int i = 0; i < orders; i++) {
                if (orderTold[i] <= known && day >= orderDays[i] && day < orderDays[i] + orderLengths[i]) {
                    depth = Math.max(depth, orderDepths[i]);
                }
            }
            return depth;
        }
    }

    /** People, their marriages and deaths; sets of people are bits by their numbers. */
    private static final class Family {
        private static final int MOST = 40;
        private static final int SIZES = 5;

        private final int[] sexes = new int[MOST];
        final int[] sizes = new int[MOST];
        private final int[] fathers = new int[MOST];
        private final int[] mothers = new int[MOST];
        final int[] born = new int[MOST];
        final int[] toldOn = new int[MOST];
        final int[] died = new int[MOST];
        final int[] diedKnown = new int[MOST];
        private final long[] parents = new long[MOST];
        private final long[] children = new long[MOST];
        private final long[] siblings = new long[MOST];
        private final int[] husbands = new int[MOST];
        private final int[] wives = new int[MOST];
        private final int[] wedDays = new int[MOST];
        private final int[] wedTold = new int[MOST];
        private final long[] spouses = new long[MOST];
        private long men = 0;
        private long gathered = 0;
        int people = 0;
        int marriages = 0;

        boolean has(int person) {
            return person >= 0 && person < people;
        }

        boolean hasPlaceFor(int who, int father, int mother, int birth) {
            return people < MOST && who >= 0 && who / 10 <= 1 && who % 10 < SIZES
                && canBeParent(father, 1, birth) && canBeParent(mother, 0, birth);
        }

        private boolean canBeParent(int parent, int sex, int birth) {
            return parent == NONE || has(parent) && sexes[parent] == sex && born[parent] <= birth;
        }

        int add(int who, int father, int mother, int birth, int now) {
            int number = people;
            sexes[number] = who / 10;
            sizes[number] = who % 10;
            fathers[number] = father;
            mothers[number] = mother;
            born[number] = birth;
            toldOn[number] = now;
            diedKnown[number] = NEVER;
            if (isMan(number)) {
                men |= 1L << number;
            }
            addChild(father, number);
            addChild(mother, number);
            people++;
            return number;
        }

        private void addChild(int parent, int child) {
            if (!has(parent)) {
                return;
            }
            for (int i = 0; i < child; i++) {
                if ((children[parent] >> i & 1) != 0) {
                    siblings[i] |= 1L << child;
                    siblings[child] |= 1L << i;
                }
            }
            children[parent] |= 1L << child;
            parents[child] |= 1L << parent;
        }

        boolean isMan(int person) {
            return sexes[person] == 1;
        }

        boolean isToldDead(int person) {
            return diedKnown[person] != NEVER;
        }

        void bury(int person, int day, int now) {
            died[person] = day;
            diedKnown[person] = now;
        }

        /** Whether all that have a bit are there and no death of theirs is told. */
        boolean areAlive(int bits) {
            if ((long) bits >> people != 0) {
                return false;
            }
            for (int who = 0; who < people; who++) {
                if (((long) bits >> who & 1) != 0 && isToldDead(who)) {
                    return false;
                }
            }
            return true;
        }

        boolean canMarry(int a, int b, int day) {
            return marriages < MOST && has(a) && has(b) && sexes[a] != sexes[b] && day >= born[a] && day >= born[b];
        }

        int marry(int a, int b, int day, int now) {
            husbands[marriages] = isMan(a) ? a : b;
            wives[marriages] = isMan(a) ? b : a;
            wedDays[marriages] = day;
            wedTold[marriages] = now;
            marriages++;
            return marriages - 1;
        }

        /** The first day behind a day on which one weds, as known; NEVER if there is none. */
        int nextWedding(int person, int day, int known) {
            int next = NEVER;
            for (int i = 0; i < marriages; i++) {
                boolean theirs = husbands[i] == person || wives[i] == person;
                if (theirs && wedTold[i] <= known && wedDays[i] > day && wedDays[i] < next) {
                    next = wedDays[i];
                }
            }
            return next;
        }

        /** Whether a child of a person was born from one day to another, as known. */
        boolean hasChildBorn(int person, int from, int to, int known) {
            for (int i = 0; i < people; i++) {
                boolean theirs = (children[person] >> i & 1) != 0;
                if (theirs && toldOn[i] <= known && born[i] >= from && born[i] <= to) {
                    return true;
                }
            }
            return false;
        }

        /** Sets what isKin goes by: the people as known, and their marriages up to a day. */
        void gather(int day, int known) {
            gathered = 0;
            for (int i = 0; i < people; i++) {
                spouses[i] = 0;
                if (toldOn[i] <= known) {
                    gathered |= 1L << i;
                }
            }
            for (int i = 0; i < marriages; i++) {
                if (wedTold[i] <= known && wedDays[i] <= day) {
                    spouses[husbands[i]] |= 1L << wives[i];
                    spouses[wives[i]] |= 1L << husbands[i];
                }
            }
        }

        boolean isKin(Law law, int rule, int a, int d) {
            long others = gathered & ~(1L << a);
            long set = gathered & (1L << a);
            for (int i = law.kinCount(rule) - 1; i >= 0; i--) {
                set = kinOf(set, law.kinWord(rule, i)) & others;
            }
            return (set >> d & 1) != 0;
        }

        private long kinOf(long set, int word) {
            long found = 0;
            for (int i = 0; i < people; i++) {
                if ((set >> i & 1) != 0) {
                    found |= relativesOf(i, word - word % 3);
                }
            }
            int sex = word % 3;
            return sex == 0 ? found : sex == 1 ? found & men : found & ~men;
        }

        private long relativesOf(int person, int relation) {
            switch (relation) {
                case Words.SPOUSE:
                    return spouses[person];
                case Words.CHILD:
                    return children[person];
                case Words.PARENT:
                    return parents[person];
                default:
                    return siblings[person];
            }
        }

        int factOf(int person, int what) {
            switch (what) {
                case 0:
                    return sexes[person];
                case 1:
                    return sizes[person];
                case 2:
                    return fathers[person] == NONE ? NO_ANSWER : fathers[person];
                case 3:
                    return mothers[person] == NONE ? NO_ANSWER : mothers[person];
                case 4:
                    return born[person];
                case 5:
                    return isToldDead(person) ? died[person] : NO_ANSWER;
                case 6:
                    return isToldDead(person) ? diedKnown[person] : NO_ANSWER;
                default:
                    return NO_ANSWER;
            }
        }
    }

    /** The mourning of one for one who died, as it stands on the mourner's day. */
    private static final class Mourning {
        private final int[] ends = new int[Law.MOST];
        private final int[] depths = new int[Law.MOST];
        private int parts = 0;
        int dead = NONE;
        int begin = 0;
        boolean waits = false;
        boolean firm = false;
        boolean over = false;
        int lastDay = 0;
        private int gone = 0;
        private int part = 0;

        void start(int whom, int day, Law law, int rule, boolean halved) {
            dead = whom;
            begin = day;
            waits = law.hasOption(rule, Law.WAIT);
            firm = law.hasOption(rule, Law.FIRM);
            over = false;
            lastDay = NEVER;
            gone = 0;
            part = 0;
            parts = law.partCount(rule);
            int from = day;
            int length = 0;
            for (int i = 0; i < parts; i++) {
                int to = law.endOfPart(rule, i, from);
                length += halved ? (to - from + 1) / 2 : to - from;
                ends[i] = length;
                depths[i] = law.partDepth(rule, i);
                from = to;
            }
        }

        boolean isOn(int day) {
            return !over && begin <= day;
        }

        int depthNow() {
            return depths[part];
        }

        boolean goesOn(int deepest) {
            return !waits || depths[part] == deepest;
        }

        int leftInPart() {
            return ends[part] - gone;
        }

        /** Some days of a part go by, up to the one ahead of a day. */
        void pass(int days, int day) {
            gone += days;
            if (gone < ends[part]) {
                return;
            }
            if (part == parts - 1) {
                finish(day - 1);
            } else {
                part++;
            }
        }

        void finish(int day) {
            over = true;
            lastDay = day;
        }
    }

    /**
     * One who mourns, as known on a day. The days are gone through once, onwards,
     * from one day on which something changes to the next one.
     */
    private static final class Mourner {
        private static final int MOST = 40;
        private static final int EDGE_DAYS = 30;
        private static final int BEHIND_ALL = Calendar.LAST + 2;
        // Far above all beginnings, weddings and ends of parts.
        private static final int MOST_CHANGES = 100000;

        private final Family family;
        private final Decrees decrees;
        private final Mourning[] mournings = new Mourning[MOST];
        private int count = 0;
        private int who = 0;
        private int known = 0;
        private int today = 0;
        private int changes = 0;
        private int firmDepth = 0;
        private int otherDepth = 0;

        Mourner(Family people, Decrees rules) {
            family = people;
            decrees = rules;
            for (int i = 0; i < MOST; i++) {
                mournings[i] = new Mourning();
            }
        }

        /** The rule by which one mourns for another, or NONE. */
        int ruleFor(int a, int d, int knownDay) {
            if (family.toldOn[a] > knownDay || family.diedKnown[d] > knownDay) {
                return NONE;
            }
            Law law = decrees.lawOn(family.died[d], knownDay);
            if (law == null) {
                return NONE;
            }
            family.gather(family.died[d], knownDay);
            int nearest = NONE;
            for (int rule = 0; rule < law.rules; rule++) {
                boolean near = nearest == NONE || law.kinCount(rule) <= law.kinCount(nearest);
                if (near && family.isKin(law, rule, a, d)) {
                    nearest = rule;
                }
            }
            return nearest;
        }

        /** Sets whom all else is asked of, and goes back ahead of the first mourning. */
        void study(int a, int knownDay) {
            who = a;
            known = knownDay;
            count = 0;
            for (int d = 0; d < family.people && count < MOST; d++) {
                int rule = ruleFor(a, d, knownDay);
                if (rule != NONE) {
                    startMourning(d, rule);
                }
            }
            today = Calendar.FIRST;
            lookAhead();
        }

        private void startMourning(int d, int rule) {
            Law law = decrees.lawOn(family.died[d], known);
            Mourning mourning = mournings[count];
            if (law == null || mourning == null) {
                return;
            }
            int news = law.hasOption(rule, Law.NEWS) ? family.diedKnown[d] : family.died[d];
            boolean halved = law.hasOption(rule, Law.MEN_HALF) && family.isMan(who);
            mourning.start(d, Math.max(news, family.born[who]), law, rule, halved);
            count++;
        }

        // ---- The days ----

        private void moveTo(int day) {
            for (int i = 0; i < MOST_CHANGES && today < day && changes <= day; i++) {
                passDays(changes - today);
            }
        }

        private void passDays(int days) {
            int deepest = Math.max(firmDepth, otherDepth);
            int next = today + days;
            for (int i = 0; i < count; i++) {
                Mourning mourning = mournings[i];
                if (mourning.isOn(today) && mourning.goesOn(deepest)) {
                    mourning.pass(days, next);
                }
            }
            today = next;
            endByWedding();
            lookAhead();
        }

        private void endByWedding() {
            Law law = decrees.lawOn(today, known);
            if (law == null || law.weddingDepth == 0 || family.nextWedding(who, today - 1, known) != today) {
                return;
            }
            for (int i = 0; i < count; i++) {
                Mourning mourning = mournings[i];
                if (mourning.isOn(today) && mourning.depthNow() <= law.weddingDepth) {
                    mourning.finish(today - 1);
                }
            }
        }

        /** Works out today's depths, and how long nothing changes. */
        private void lookAhead() {
            firmDepth = 0;
            otherDepth = 0;
            for (int i = 0; i < count; i++) {
                Mourning mourning = mournings[i];
                if (mourning.isOn(today) && mourning.firm) {
                    firmDepth = Math.max(firmDepth, mourning.depthNow());
                } else if (mourning.isOn(today)) {
                    otherDepth = Math.max(otherDepth, mourning.depthNow());
                }
            }
            int deepest = Math.max(firmDepth, otherDepth);
            changes = Math.min(BEHIND_ALL, family.nextWedding(who, today, known));
            for (int i = 0; i < count; i++) {
                Mourning mourning = mournings[i];
                if (mourning.begin > today) {
                    changes = Math.min(changes, mourning.begin);
                } else if (!mourning.over && mourning.goesOn(deepest)) {
                    changes = Math.min(changes, today + mourning.leftInPart());
                }
            }
        }

        // ---- What is asked of the days; none may lie ahead of one that was asked for ----

        int depthOn(int day) {
            boolean dead = family.diedKnown[who] <= known && day > family.died[who];
            if (family.toldOn[who] > known || day < family.born[who] || dead) {
                return NONE;
            }
            moveTo(day);
            Law law = decrees.lawOn(day, known);
            int depth = Math.max(firmDepth, lightened(law, day));
            depth = Math.max(depth, decrees.orderedDepth(day, known));
            return depth > 0 && isTooYoung(law, day) ? Math.min(depth, law.underDepth) : depth;
        }

        private int lightened(Law law, int day) {
            if (law == null || otherDepth == 0) {
                return otherDepth;
            }
            int depth = law.onFeasts(otherDepth, Calendar.dateOf(day));
            if (depth > law.heirDepth && law.heirDays > 0
                && family.hasChildBorn(who, day - law.heirDays + 1, day, known)) {
                return law.heirDepth;
            }
            return depth;
        }

        private boolean isTooYoung(Law law, int day) {
            return law != null && law.underYears > 0
                && Calendar.later(family.born[who], law.underYears * 12) > day;
        }

        boolean isAllowed(int act, int day) {
            int depth = depthOn(day);
            if (depth == NONE) {
                return false;
            }
            Law law = decrees.lawOn(day, known);
            return law == null || depth <= law.mayDepths[act];
        }

        int edgeOn(int day) {
            int depth = depthOn(day);
            if (depth <= 0) {
                return depth;
            }
            int more = 0;
            for (int i = 0; i < count; i++) {
                int begin = mournings[i].begin;
                if (day >= begin && day < begin + EDGE_DAYS) {
                    more = 2;
                }
            }
            return depth * 2 + more;
        }

        int lastDayFor(int d) {
            moveTo(Calendar.LAST + 1);
            for (int i = 0; i < count; i++) {
                Mourning mourning = mournings[i];
                if (mourning.dead == d) {
                    return mourning.lastDay < mourning.begin ? NO_ANSWER : Math.min(mourning.lastDay, Calendar.LAST + 1);
                }
            }
            return NO_ANSWER;
        }
    }

    /** Dresses, cloths and hands, and the tasks in their row. */
    private static final class Wardrobe {
        static final int DARKEST = 4;
        static final int MOST_HANDS = 4;
        static final int DYE_DAYS = 2;
        static final int MAKE_DAYS = 3;
        private static final int MOST_DRESSES = 40;
        private static final int MOST_TASKS = 20;
        private static final int MOST_SIZE = 4;
        private static final int MOST_CLOTHS = 999;
        private static final int MOST_CAME = 99;

        final int[] sizes = new int[MOST_DRESSES];
        final int[] stuffs = new int[MOST_DRESSES];
        final boolean[] away = new boolean[MOST_DRESSES];
        final int[] cloths = new int[DARKEST + 1];
        // A task's dress is NONE if it is to be made.
        private final int[] taskDresses = new int[MOST_TASKS];
        private final int[] taskSizes = new int[MOST_TASKS];
        private final int[] taskStuffs = new int[MOST_TASKS];
        final int[] taskLeft = new int[MOST_TASKS];
        int dresses = 0;
        int tasks = 0;
        int hands = 0;
        private int inMaking = 0;

        boolean has(int dress) {
            return dress >= 0 && dress < dresses;
        }

        private static boolean canBe(int size, int stuff) {
            return size >= 0 && size <= MOST_SIZE && stuff >= 0 && stuff <= DARKEST;
        }

        boolean canHang(int size, int stuff) {
            return canBe(size, stuff) && dresses + inMaking < MOST_DRESSES;
        }

        int hang(int size, int stuff) {
            sizes[dresses] = size;
            stuffs[dresses] = stuff;
            away[dresses] = false;
            dresses++;
            return dresses - 1;
        }

        boolean canStore(int stuff, int n) {
            return canBe(0, stuff) && n >= 1 && n <= MOST_CAME && cloths[stuff] + n <= MOST_CLOTHS;
        }

        int store(int stuff, int n) {
            cloths[stuff] += n;
            return cloths[stuff];
        }

        int clothsOf(int stuff) {
            return stuff >= 0 && stuff <= DARKEST ? cloths[stuff] : NONE;
        }

        boolean canDye(int dress, int stuff) {
            return has(dress) && !away[dress] && stuff <= DARKEST && stuff > stuffs[dress] && tasks < MOST_TASKS;
        }

        int startDye(int dress, int stuff) {
            away[dress] = true;
            addTask(dress, sizes[dress], stuff, DYE_DAYS);
            return tasks;
        }

        boolean canMake(int size, int stuff) {
            return canHang(size, stuff) && cloths[stuff] > 0 && tasks < MOST_TASKS;
        }

        int startMake(int size, int stuff) {
            cloths[stuff]--;
            inMaking++;
            addTask(NONE, size, stuff, MAKE_DAYS);
            return tasks;
        }

        private void addTask(int dress, int size, int stuff, int days) {
            taskDresses[tasks] = dress;
            taskSizes[tasks] = size;
            taskStuffs[tasks] = stuff;
            taskLeft[tasks] = days;
            tasks++;
        }

        void work(int days) {
            for (int i = 0; i < days && tasks > 0 && hands > 0; i++) {
                for (int task = 0; task < tasks && task < hands; task++) {
                    taskLeft[task]--;
                }
                clearDone();
            }
        }

        private void clearDone() {
            int kept = 0;
            for (int task = 0; task < tasks; task++) {
                if (taskLeft[task] <= 0) {
                    bring(task);
                } else {
                    taskDresses[kept] = taskDresses[task];
                    taskSizes[kept] = taskSizes[task];
                    taskStuffs[kept] = taskStuffs[task];
                    taskLeft[kept] = taskLeft[task];
                    kept++;
                }
            }
            tasks = kept;
        }

        private void bring(int task) {
            int dress = taskDresses[task];
            if (has(dress)) {
                stuffs[dress] = taskStuffs[task];
                away[dress] = false;
            } else if (dresses < MOST_DRESSES) {
                inMaking--;
                hang(taskSizes[task], taskStuffs[task]);
            }
        }

        /** The least dress that is there, is so, and has no bit among those taken. */
        int leastDress(int size, int stuff, long taken) {
            for (int dress = 0; dress < dresses; dress++) {
                boolean free = !away[dress] && (taken >> dress & 1) == 0;
                if (free && sizes[dress] == size && stuffs[dress] == stuff) {
                    return dress;
                }
            }
            return NONE;
        }
    }

    /** The search for the best plan: every way of each one, in order, by numbers. */
    private static final class Planner {
        static final int MOST = 5;
        static final int FURTHEST = 100;
        static final int NUMBERED = 31;
        private static final int WEAR = 1;
        private static final int DYE = 2;
        private static final int MAKE = 3;
        private static final int BUY = 4;
        // Weights, so that one that is bought outweighs all that are made, and so on.
        private static final int DYE_COST = 1;
        private static final int MAKE_COST = 10;
        private static final int BUY_COST = 100;

        private final Wardrobe wardrobe;
        private final int[] sizes = new int[MOST];
        private final int[] needs = new int[MOST];
        private final int[] ways = new int[MOST];
        private final int[] picks = new int[MOST];
        private final int[] bestWays = new int[MOST];
        private final int[] bestPicks = new int[MOST];
        private final int[] clothsUsed = new int[Wardrobe.DARKEST + 1];
        // Row i: how many days each hand is taken by the tasks ahead of the i-th one's.
        private final int[] handDays = new int[(MOST + 1) * Wardrobe.MOST_HANDS];
        private int count = 0;
        private int days = 0;
        private int bestCost = 0;
        private long taken = 0;

        Planner(Wardrobe clothes) {
            wardrobe = clothes;
        }

        void open(int daysLeft) {
            count = 0;
            days = daysLeft;
        }

        void add(int size, int need) {
            if (count < MOST) {
                sizes[count] = size;
                needs[count] = need;
                count++;
            }
        }

        int wayOf(int k) {
            return k >= 0 && k < count ? bestWays[k] : NONE;
        }

        int dressOf(int k) {
            return k >= 0 && k < count ? bestPicks[k] : NONE;
        }

        void solve() {
            for (int i = 0; i < clothsUsed.length; i++) {
                clothsUsed[i] = 0;
            }
            taken = 0;
            bestCost = NEVER;
            takeHands();
            choose(0, 0);
        }

        /** A task is begun by the first hand that is free, and never left again. */
        private void takeHands() {
            for (int hand = 0; hand < Wardrobe.MOST_HANDS; hand++) {
                handDays[hand] = 0;
            }
            for (int task = 0; task < wardrobe.tasks && wardrobe.hands > 0; task++) {
                handDays[freeHand(0)] += wardrobe.taskLeft[task];
            }
        }

        private int freeHand(int row) {
            int place = row * Wardrobe.MOST_HANDS;
            int free = place;
            for (int hand = 1; hand < wardrobe.hands; hand++) {
                if (handDays[place + hand] < handDays[free]) {
                    free = place + hand;
                }
            }
            return free;
        }

        private void choose(int i, int cost) {
            if (cost >= bestCost) {
                return;
            }
            if (i >= count || i >= MOST) {
                keep(cost);
            } else if (needs[i] == 0) {
                pick(i, 0, NONE, cost);
            } else {
                wear(i, cost);
                dyeDarker(i, cost);
                sew(i, cost);
                pick(i, BUY, NONE, cost + BUY_COST);
            }
        }

        private void keep(int cost) {
            bestCost = cost;
            for (int i = 0; i < count; i++) {
                bestWays[i] = ways[i];
                bestPicks[i] = picks[i];
            }
        }

        private void wear(int i, int cost) {
            int dress = wardrobe.leastDress(sizes[i], needs[i], taken);
            if (dress != NONE) {
                pick(i, WEAR, dress, cost);
            }
        }

        private void dyeDarker(int i, int cost) {
            for (int stuff = needs[i] - 1; stuff >= 0; stuff--) {
                int dress = wardrobe.leastDress(sizes[i], stuff, taken);
                if (dress != NONE) {
                    pick(i, DYE, dress, cost + DYE_COST);
                }
            }
        }

        private void sew(int i, int cost) {
            int stuff = needs[i];
            if (wardrobe.cloths[stuff] > clothsUsed[stuff]) {
                clothsUsed[stuff]++;
                pick(i, MAKE, NONE, cost + MAKE_COST);
                clothsUsed[stuff]--;
            }
        }

        /** Goes on to the next one with a way of the i-th, if its task is done in time. */
        private void pick(int i, int way, int dress, int cost) {
            if (!isInTime(i, way)) {
                return;
            }
            long before = taken;
            ways[i] = way;
            picks[i] = dress;
            if (dress != NONE) {
                taken |= 1L << dress;
            }
            choose(i + 1, cost);
            taken = before;
        }

        /** Fills the next row of hands; whether the way's task is done in time. */
        private boolean isInTime(int i, int way) {
            int row = i * Wardrobe.MOST_HANDS;
            int next = row + Wardrobe.MOST_HANDS;
            for (int hand = 0; hand < Wardrobe.MOST_HANDS; hand++) {
                handDays[next + hand] = handDays[row + hand];
            }
            if (way != DYE && way != MAKE) {
                return true;
            }
            if (wardrobe.hands == 0) {
                return false;
            }
            int hand = freeHand(i + 1);
            handDays[hand] += way == DYE ? Wardrobe.DYE_DAYS : Wardrobe.MAKE_DAYS;
            return handDays[hand] <= days;
        }
    }
}
