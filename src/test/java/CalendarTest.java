import java.time.LocalDate;

/** Promises 6 to 9: dates, days, months and the going of the days. */
public final class CalendarTest {
    private static final LocalDate ZERO = LocalDate.of(1800, 1, 1);

    public static void main(String[] args) {
        everyDay();
        noSuchDates();
        months();
        going();
        workingToTheLast();
        Check.done();
    }

    private static void everyDay() {
        MourningHouse h = null;
        for (int day = -36524; day <= 73047; day++) {
            // An object is used for 512 calls at most.
            h = h == null || day % 250 == 0 ? new MourningHouse() : h;
            LocalDate d = ZERO.plusDays(day);
            int date = d.getYear() * 10000 + d.getMonthValue() * 100 + d.getDayOfMonth();
            Check.due("date(" + day + ")", h.date(day), date);
            Check.due("day(" + date + ")", h.day(date), day);
        }
    }

    private static void noSuchDates() {
        MourningHouse h = new MourningHouse();
        Check.due("date", h.date(-36525), -1);
        Check.due("date", h.date(73048), -1);
        Check.due("date", h.date(Integer.MAX_VALUE), -1);
        Check.due("date", h.date(Integer.MIN_VALUE), -1);
        int[] none = {16991231, 20000101, 18000001, 18001301, 18000100, 18000132, 18000229, 19000229, 17000229, 18010229,
            18000431, 18000631, 18000931, 18001131, 0, -1, -18000101, Integer.MAX_VALUE, Integer.MIN_VALUE, 101, 18009901};
        for (int date : none) {
            Check.due("day(" + date + ")", h.day(date), Check.NO_ANSWER);
        }
        Check.due("leap day", h.day(18040229), 1519);
    }

    private static void months() {
        MourningHouse h = new MourningHouse();
        Check.due("none on", h.months(5, 0), 5);
        Check.due("to the last of February", h.months(h.day(18031231), 2), h.day(18040229));
        Check.due("to the last of February", h.months(h.day(18041231), 2), h.day(18050228));
        Check.due("a year from a leap day", h.months(h.day(18040229), 12), h.day(18050228));
        Check.due("four years from a leap day", h.months(h.day(18040229), 48), h.day(18080229));
        Check.due("not the last one of the month", h.months(h.day(18040229), 1), h.day(18040329));
        Check.due("over a year's end", h.months(h.day(17991115), 3), h.day(18000215));
        Check.due("thirty-first to thirtieth", h.months(h.day(18000331), 1), h.day(18000430));
        Check.due("the most", h.months(-36524, 3599), h.day(19991201));
        Check.due("behind the last", h.months(-36524, 3600), Check.NO_ANSWER);
        Check.due("12000", h.months(0, 12000), Check.NO_ANSWER);
        Check.due("12001", h.months(-36524, 12001), Check.NO_ANSWER);
        Check.due("less than none", h.months(0, -1), Check.NO_ANSWER);
        Check.due("least", h.months(0, Integer.MIN_VALUE), Check.NO_ANSWER);
        Check.due("greatest", h.months(0, Integer.MAX_VALUE), Check.NO_ANSWER);
        Check.due("no such day", h.months(-36525, 1), Check.NO_ANSWER);
        Check.due("no such day", h.months(73048, 0), Check.NO_ANSWER);
        Check.due("last day", h.months(73047, 0), 73047);
        for (int day = -36524; day < 73000; day += 97) {
            h = new MourningHouse();
            for (int m = 1; m < 500; m += 7) {
                LocalDate later = ZERO.plusDays(day).plusMonths(m);
                int want = later.getYear() > 1999 ? Check.NO_ANSWER : (int) (later.toEpochDay() - ZERO.toEpochDay());
                Check.due("months(" + day + ", " + m + ")", h.months(day, m), want);
            }
        }
    }

    private static void going() {
        MourningHouse h = new MourningHouse();
        Check.due("go(0)", h.go(0), 0);
        Check.due("go(2000)", h.go(2000), 2000);
        Check.due("go(2001)", h.go(2001), -1);
        Check.due("go(-1)", h.go(-1), -1);
        Check.due("go(greatest)", h.go(Integer.MAX_VALUE), -1);
        Check.due("go(least)", h.go(Integer.MIN_VALUE), -1);
        Check.due("now", h.count(0), 2000);
        for (int i = 2; i <= 36; i++) {
            Check.due("go(2000)", h.go(2000), i * 2000);
        }
        Check.due("go nearly to the last", h.go(1046), 73046);
        Check.due("go(2001)", h.go(2001), -1);
        Check.due("now", h.count(0), 73046);
        Check.due("go to the last", h.go(1), 73047);
        Check.due("go(1)", h.go(1), 73047);
        Check.due("go(2000)", h.go(2000), 73047);
        Check.due("go(2001)", h.go(2001), -1);
        Check.due("go(-1)", h.go(-1), -1);
        Check.due("go(0)", h.go(0), 73047);
        Check.due("now", h.count(0), 73047);
    }

    /** Only the days that there are end: a task of two days is done by two of them, not by one. */
    private static void workingToTheLast() {
        for (int left = 1; left <= 3; left++) {
            MourningHouse h = new MourningHouse();
            Check.yes("hands", h.hands(1));
            Check.due("dress", h.dress(0, 1), 0);
            for (int i = 1; i <= 36; i++) {
                h.go(2000);
            }
            Check.due("go", h.go(1047 - left), 73047 - left);
            Check.due("dye", h.dye(0, 4), 1);
            Check.due("go(2000)", h.go(2000), 73047);
            Check.due("tasks, " + left + " days", h.count(7), left < 2 ? 1 : 0);
            Check.due("stuff, " + left + " days", h.worn(0, 1), left < 2 ? 1 : 4);
            Check.due("go(2000)", h.go(2000), 73047);
            Check.due("tasks then", h.count(7), left < 2 ? 1 : 0);
        }
    }
}
