/** The boundary cases of promises 6 to 9 and of the terms' part 1: a sentence, a test. */
public final class DaysEdgesTest {
    private static final int LEAST = Integer.MIN_VALUE;
    private static final int MOST = Integer.MAX_VALUE;

    public static void main(String[] args) {
        firstAndLastDay();
        leapYears();
        monthsOfAYear();
        datesThatAreNone();
        sameDayOfTheMonth();
        lastDayOfTheMonth();
        overTheYearsEnd();
        monthsThatAreNone();
        nowIsNeverBelowZero();
        longestGo();
        nowAtTheLastDay();
        daysThatEndOnTheWay();
        knownFromNowOn();
        theLastCall();
        Check.done();
    }

    private static void sameDay(int day, int date) {
        MourningHouse h = new MourningHouse();
        Check.due("date(" + day + ")", h.date(day), date);
        Check.due("day(" + date + ")", h.day(date), day);
        Check.due("months(" + day + ", 0)", h.months(day, 0), day);
    }

    /** "DAYS are -36524 .. 73047: DAY 0 is the first of January 1800, the last one is the 31st of December 1999, ..." */
    private static void firstAndLastDay() {
        sameDay(-36524, 17000101);
        sameDay(-36523, 17000102);
        sameDay(-1, 17991231);
        sameDay(0, 18000101);
        sameDay(1, 18000102);
        sameDay(73046, 19991230);
        sameDay(73047, 19991231);
        MourningHouse h = new MourningHouse();
        for (int day : new int[] {-36525, 73048, -40000, 80000, -1000000, 1000000, LEAST, LEAST + 1, MOST, MOST - 1}) {
            Check.due("date(" + day + ")", h.date(day), -1);
            Check.due("months(" + day + ", 0)", h.months(day, 0), Check.NO_ANSWER);
            Check.due("months(" + day + ", 1)", h.months(day, 1), Check.NO_ANSWER);
        }
    }

    /** "leap years: each fourth one, but of hundreds only each fourth" */
    private static void leapYears() {
        for (int year = 1700; year <= 1999; year++) {
            MourningHouse h = new MourningHouse();
            boolean leap = year % 4 == 0 && year != 1700 && year != 1800 && year != 1900;
            int february = h.day(year * 10000 + 228);
            int leapDay = h.day(year * 10000 + 229);
            Check.due("the 29th of February " + year, leapDay, leap ? february + 1 : Check.NO_ANSWER);
            Check.due("the day behind the 28th of February " + year, h.date(february + 1), year * 10000 + (leap ? 229 : 301));
            Check.due("the first of March " + year, h.day(year * 10000 + 301), february + (leap ? 2 : 1));
            Check.due("no 30th of February " + year, h.day(year * 10000 + 230), Check.NO_ANSWER);
            int days = h.day(year * 10000 + 1231) - h.day(year * 10000 + 101) + 1;
            Check.due("days of " + year, days, leap ? 366 : 365);
        }
    }

    private static void monthsOfAYear() {
        int[] lengths = {31, 28, 31, 30, 31, 30, 31, 31, 30, 31, 30, 31};
        MourningHouse h = new MourningHouse();
        int day = 365;
        for (int month = 1; month <= 12; month++) {
            int first = 18010000 + month * 100 + 1;
            int last = first + lengths[month - 1] - 1;
            Check.due("the first of a month", h.date(day), first);
            Check.due("the first of a month", h.day(first), day);
            day += lengths[month - 1];
            Check.due("the last of a month", h.date(day - 1), last);
            Check.due("the last of a month", h.day(last), day - 1);
            Check.due("one behind it", h.day(last + 1), Check.NO_ANSWER);
            Check.due("one ahead of the first", h.day(first - 1), Check.NO_ANSWER);
        }
        Check.due("a month more", h.day(18011301), Check.NO_ANSWER);
        Check.due("a month less", h.day(18010001), Check.NO_ANSWER);
    }

    /** "The DAY of a DATE; -2147483648 if there is none such." */
    private static void datesThatAreNone() {
        MourningHouse h = new MourningHouse();
        for (int date : new int[] {16991231, 16990101, 20000101, 20001231, 18000000, 18000100, 18000132, 18000199, 18001200,
            18001232, 18001301, 18009901, 18000001, 0, 1, 101, 1231, 10101, 180101, 1800101, -1, -18000101, -17991231,
            118000101, 218000101, 428000101, LEAST, LEAST + 1, MOST, MOST - 1}) {
            Check.due("day(" + date + ")", h.day(date), Check.NO_ANSWER);
        }
    }

    private static void later(int date, int months, int want) {
        MourningHouse h = new MourningHouse();
        int day = h.day(date);
        Check.due("months(" + date + ", " + months + ")", h.months(day, months), h.day(want));
    }

    /** "the same day of the month so many months on" */
    private static void sameDayOfTheMonth() {
        later(18000101, 1, 18000201);
        later(18000128, 1, 18000228);
        later(18000430, 1, 18000530);
        later(18000228, 1, 18000328);
        later(18040229, 48, 18080229);
        later(17000101, 3588, 19990101);
        later(17000101, 3599, 19991201);
        later(19991130, 1, 19991230);
        later(18000531, 2, 18000731);
    }

    /** "or the last one of that month, if it has fewer" */
    private static void lastDayOfTheMonth() {
        later(18000129, 1, 18000228);
        later(18000130, 1, 18000228);
        later(18000131, 1, 18000228);
        later(18040129, 1, 18040229);
        later(18040130, 1, 18040229);
        later(18040131, 1, 18040229);
        later(18000331, 1, 18000430);
        later(18000531, 1, 18000630);
        later(18000831, 1, 18000930);
        later(18001031, 1, 18001130);
        later(18040229, 12, 18050228);
        later(17960229, 48, 18000228);
        later(18960229, 48, 19000228);
        later(18960229, 96, 19040229);
    }

    private static void overTheYearsEnd() {
        later(17991201, 1, 18000101);
        later(17991231, 1, 18000131);
        later(17991231, 2, 18000228);
        later(17991215, 13, 18010115);
        later(18001101, 2, 18010101);
        later(18000101, 11, 18001201);
        later(18000101, 12, 18010101);
        later(18001231, 12, 18011231);
    }

    /** "a DAY so many MONTHS (0 .. 12000) behind a DAY; -2147483648 if one of both is none" */
    private static void monthsThatAreNone() {
        MourningHouse h = new MourningHouse();
        for (int months : new int[] {-1, -12, 12001, 20000, LEAST, LEAST + 1, MOST, MOST - 1}) {
            for (int day : new int[] {-36524, 0, 73047}) {
                Check.due("months(" + day + ", " + months + ")", h.months(day, months), Check.NO_ANSWER);
            }
        }
        for (int day : new int[] {-36524, 0, 73047}) {
            Check.due("none on", h.months(day, 0), day);
            Check.due("12000 on", h.months(day, 12000), Check.NO_ANSWER);
        }
        Check.due("behind the last day", h.months(-36524, 3600), Check.NO_ANSWER);
        Check.due("behind the last day", h.months(73047, 1), Check.NO_ANSWER);
        Check.due("behind the last day", h.months(h.day(19991201), 1), Check.NO_ANSWER);
        Check.due("to the last day", h.months(h.day(19991031), 2), 73047);
        Check.due("to the last day", h.months(h.day(17001231), 299 * 12), 73047);
    }

    /** "NOW is a DAY (0 at first; it never is below that)" */
    private static void nowIsNeverBelowZero() {
        MourningHouse h = new MourningHouse();
        Check.due("at first", h.count(0), 0);
        for (int n : new int[] {-1, -2, -2000, LEAST, LEAST + 1}) {
            Check.due("go(" + n + ")", h.go(n), -1);
            Check.due("NOW", h.count(0), 0);
        }
        Check.due("go(0)", h.go(0), 0);
        Check.due("go(1)", h.go(1), 1);
        Check.due("go(-1)", h.go(-1), -1);
        Check.due("NOW", h.count(0), 1);
    }

    /** "NOW is n DAYS later (0 .. 2000; ...): NOW; NONE for another n." */
    private static void longestGo() {
        MourningHouse h = new MourningHouse();
        Check.due("go(2000)", h.go(2000), 2000);
        for (int n : new int[] {2001, 2002, 4000, 73047, MOST, MOST - 1}) {
            Check.due("go(" + n + ")", h.go(n), -1);
            Check.due("NOW", h.count(0), 2000);
        }
        Check.due("go(1999)", h.go(1999), 3999);
    }

    private static MourningHouse at(int day) {
        MourningHouse h = new MourningHouse();
        for (int left = day; left > 0; left -= 2000) {
            h.go(Math.min(left, 2000));
        }
        Check.due("NOW", h.count(0), day);
        return h;
    }

    /** "73047 at most" */
    private static void nowAtTheLastDay() {
        for (int ahead = 0; ahead <= 3; ahead++) {
            for (int n : new int[] {0, 1, 2, 3, 4, 1999, 2000}) {
                MourningHouse h = at(73047 - ahead);
                int want = Math.min(73047, 73047 - ahead + n);
                Check.due("go(" + n + ") from " + ahead + " days ahead", h.go(n), want);
                Check.due("NOW", h.count(0), want);
            }
            MourningHouse h = at(73047 - ahead);
            Check.due("go(2001)", h.go(2001), -1);
            Check.due("go(-1)", h.go(-1), -1);
            Check.due("NOW", h.count(0), 73047 - ahead);
        }
        MourningHouse h = at(73047 - 1999);
        Check.due("not beyond", h.go(1999), 73047);
        MourningHouse last = at(73047);
        Check.due("born on the last day", last.person(0, -1, -1, 73047), 0);
        Check.due("not behind it", last.person(0, -1, -1, 73048), -1);
        Check.due("a deed on it", last.deed(0, 0), 0);
        Check.due("its day", last.stands(0, 2), 73047);
    }

    /** A task of two days is done by two days that end, not by one; days that aren't there don't end. */
    private static void daysThatEndOnTheWay() {
        for (int ahead = 0; ahead <= 3; ahead++) {
            MourningHouse h = at(73047 - ahead);
            h.hands(1);
            h.dress(0, 1);
            Check.due("dye", h.dye(0, 4), 1);
            for (int i = 0; i < 3; i++) {
                Check.due("go", h.go(2000), 73047);
                Check.due("tasks from " + ahead + " days ahead", h.count(7), ahead < 2 ? 1 : 0);
                Check.due("stuff from " + ahead + " days ahead", h.worn(0, 1), ahead < 2 ? 1 : 4);
            }
        }
    }

    /** "All that is told is KNOWN from the DAY on that is NOW as it is told"; "what was told on that DAY, too" */
    private static void knownFromNowOn() {
        MourningHouse h = Check.under("for father: black 90 days\nfor wife: grey 90 days", 2);
        h.go(10);
        h.person(10, -1, -1, -9000);
        h.person(0, 0, -1, -5000);
        Check.due("people", h.depth(1, 5, 9), -1);
        Check.due("people", h.depth(1, 5, 10), 0);
        h.go(10);
        h.death(0, 5);
        Check.due("a death", h.mourns(1, 0, 19), -1);
        Check.due("a death", h.mourns(1, 0, 20), 0);
        Check.due("a death", h.depth(1, 20, 19), 0);
        Check.due("a death", h.depth(1, 20, 20), 3);
        Check.due("of the dead", h.depth(0, 20, 19), 0);
        Check.due("of the dead", h.depth(0, 20, 20), -1);
        h.court(5, 400, 4);
        h.go(10);
        Check.due("an order", h.depth(1, 20, 19), 0);
        Check.due("an order", h.depth(1, 20, 20), 4);
        h.person(0, -1, -1, -5000);
        h.person(10, -1, -1, -5000);
        h.death(2, 29);
        h.go(10);
        h.wed(3, 2, 0);
        Check.due("a marriage", h.mourns(3, 2, 39), -1);
        Check.due("a marriage", h.mourns(3, 2, 40), 1);
        Check.due("a law", Check.take(h, "feast 2.10 to colours\nunder 30 to colours"), 0);
        h.go(1);
        Check.due("a law", h.depth(1, 40, 39), 4);
        Check.due("a law", h.depth(1, 40, 40), 0);
    }

    /** "An object is used for at most 512 calls after it has been made": the 512th is as good as the first. */
    private static void theLastCall() {
        MourningHouse h = new MourningHouse();
        for (int call = 1; call <= 512; call++) {
            Check.due("call " + call, h.go(1), call);
        }
        MourningHouse other = Check.under("for father: black 9 days", 1);
        other.person(10, -1, -1, -9000);
        other.person(0, 0, -1, -5000);
        other.death(0, 0);
        for (int call = 0; call < 500; call++) {
            Check.due("depth", other.depth(1, call % 10, 0), call % 10 < 9 ? 3 : 0);
        }
    }
}
