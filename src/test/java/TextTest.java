/** Promises 1 to 5 and 31 to 33: a new object, the text, its faults, what is written, quarrels. */
public final class TextTest {
    public static void main(String[] args) {
        newObject();
        feeding();
        ending();
        taking();
        sixLaws();
        strangeBytes();
        misplaced();
        numbers();
        notLighter();
        twice();
        tooMany();
        nothingLeft();
        lines();
        goodLines();
        written();
        quarrels();
        Check.done();
    }

    private static void newObject() {
        MourningHouse h = new MourningHouse();
        for (int what = 0; what <= 14; what++) {
            Check.due("count(" + what + ")", h.count(what), 0);
        }
        for (int what = 0; what < 3; what++) {
            Check.due("fault(" + what + ")", h.fault(what), 0);
        }
        Check.due("NONE", MourningHouse.NONE, -1);
        Check.due("person there", h.told(0, 0), Check.NO_ANSWER);
        Check.due("dress there", h.worn(0, 0), -1);
        Check.due("law there", h.write(0, 0), -1);
        Check.due("byte written", h.out(0), -1);
        Check.due("deed there", h.stands(0, 0), -1);
    }

    private static void feeding() {
        MourningHouse h = new MourningHouse();
        // "# a\n" and a byte 200 on line 2, so that order and highest bytes show in the fault.
        Check.due("feed", h.feed(0x2320610a, 0x666f7220, 0xC8202020, 0x20202020, 0x20202020), 20);
        Check.due("take", h.take(), -1);
        Check.due("line", h.fault(0), 2);
        Check.due("token", h.fault(1), 2);
        Check.due("kind", h.fault(2), 1);
        for (int i = 1; i <= 150; i++) {
            Check.due("feed " + i, h.feed(0x20202020, 0x20202020, 0x20202020, 0x20202020, 0x20202020), i * 20);
        }
        Check.due("feed beyond", h.feed(0, 0, 0, 0, 0), -1);
        Check.due("bytes", h.count(9), 3000);
        Check.yes("end", h.end(2981));
        Check.due("feed of 3001", h.feed(0, 0, 0, 0, 0), -1);
        Check.due("bytes", h.count(9), 2981);
        Check.yes("end", h.end(2980));
        Check.due("feed of 3000", h.feed(0x20202020, 0x20202020, 0x20202020, 0x20202020, 0x2020200a), 3000);
        Check.due("take of blanks", h.take(), 0);
    }

    private static void ending() {
        MourningHouse h = new MourningHouse();
        Check.yes("end(0)", h.end(0));
        Check.no("end(1)", h.end(1));
        Check.no("end(-1)", h.end(-1));
        Check.feed(h, "for son: black 1 daysQ");
        Check.no("end(23)", h.end(23));
        Check.due("bytes", h.count(9), 22);
        Check.yes("end(21)", h.end(21));
        Check.due("bytes", h.count(9), 21);
        Check.no("end(22)", h.end(22));
        Check.due("take", h.take(), 1);
    }

    private static void taking() {
        MourningHouse h = new MourningHouse();
        Check.due("empty take", h.take(), 0);
        Check.due("laws", h.count(2), 1);
        Check.due("take", Check.take(h, "for son: black 1 days\nfor wife: grey 2 weeks"), 2);
        Check.due("bytes", h.count(9), 0);
        Check.due("laws", h.count(2), 2);
        Check.due("faulty take", Check.take(h, "for son: black 1 days\nfor x"), -1);
        Check.due("bytes", h.count(9), 0);
        Check.due("laws", h.count(2), 2);
        Check.due("line", h.fault(0), 2);
        Check.due("next take", Check.take(h, "may call from grey"), 0);
        for (int what = 0; what < 3; what++) {
            Check.due("no fault", h.fault(what), 0);
        }
        Check.due("others", h.fault(3), -1);
        Check.due("others", h.fault(-1), -1);
    }

    private static void sixLaws() {
        MourningHouse h = new MourningHouse();
        Check.due("fault of none", h.fault(2), 0);
        for (int i = 0; i < 6; i++) {
            Check.due("take", Check.take(h, "for son: black 1 days"), 1);
        }
        Check.feed(h, "for Q");
        Check.due("seventh", h.take(), -1);
        Check.due("it stays", h.count(9), 5);
        Check.due("unread", h.fault(2), 0);
        Check.due("laws", h.count(2), 6);
        Check.due("the sixth", h.write(5, 0), 21);
        Check.due("no seventh", h.write(6, 0), -1);
    }

    /** The fault of a text: its line, token and kind. */
    private static void fault(String text, int line, int token, int kind) {
        MourningHouse h = new MourningHouse();
        Check.due("take of " + text, Check.take(h, text), -1);
        Check.due("line of " + text, h.fault(0), line);
        Check.due("token of " + text, h.fault(1), token);
        Check.due("kind of " + text, h.fault(2), kind);
        Check.due("laws", h.count(2), 0);
    }

    private static void good(String text, int rules) {
        MourningHouse h = new MourningHouse();
        Check.due("take of " + text, Check.take(h, text), rules);
        Check.due("kind of " + text, h.fault(2), 0);
    }

    private static void strangeBytes() {
        fault("For", 1, 1, 1);
        fault("for sonB", 1, 3, 1);
        fault("for\tson", 1, 2, 1);
        fault("for son: black 1 days\r\n", 1, 7, 1);
        fault("for son: black 1 days!", 1, 7, 1);
        fault("\n\nmay call\0", 3, 3, 1);
        fault("\u00e9", 1, 1, 1);
        fault("{", 1, 1, 1);
        fault("`", 1, 1, 1);
        fault("/", 1, 1, 1);
        fault("for son: black 1-2 days", 1, 6, 1);
        // Ahead of all others of its line, but not of those of lines ahead.
        fault("song of aunt ?", 1, 4, 1);
        fault("song\nwhat?", 1, 1, 2);
        // Behind # nothing matters.
        fault("song # what?", 1, 1, 2);
        StringBuilder many = new StringBuilder();
        for (int i = 0; i < 100; i++) {
            many.append(": ");
        }
        fault(many + "?", 1, 101, 1);
        fault(many + "#?", 1, 1, 2);
    }

    private static void misplaced() {
        fault("song", 1, 1, 2);
        fault("12", 1, 1, 2);
        fault(":", 1, 1, 2);
        fault("for", 1, 2, 2);
        fault("for # son", 1, 2, 2);
        fault("for cousin: black 1 days", 1, 2, 2);
        fault("for son son: black 1 days", 1, 3, 2);
        fault("for son", 1, 3, 2);
        fault("for son of", 1, 4, 2);
        fault("for son of : black 1 days", 1, 4, 2);
        fault("for son:", 1, 4, 2);
        fault("for son: colours 1 days", 1, 4, 2);
        fault("for son: son 1 days", 1, 4, 2);
        fault("for son: black", 1, 5, 2);
        fault("for son: black days", 1, 5, 2);
        fault("for son: black 1", 1, 6, 2);
        fault("for son: black 1 day", 1, 6, 2);
        fault("for son: black 1 days black", 1, 7, 2);
        fault("for son: black 1 days,", 1, 8, 2);
        fault("for son: black 1 days, colours 1 days", 1, 8, 2);
        fault("for son: black 1 days; wait, grey 1 days", 1, 9, 2);
        fault("for son: black 1 days;", 1, 8, 2);
        fault("for son: black 1 days; half", 1, 8, 2);
        fault("for son: black 1 days; men", 1, 9, 2);
        fault("for son: black 1 days; men wait", 1, 9, 2);
        fault("for son: black 1 days; wait wait", 1, 9, 2);
        fault("for son: black 1 days.", 1, 7, 2);
        fault("may", 1, 2, 2);
        fault("may sing from grey", 1, 2, 2);
        fault("may call to grey", 1, 3, 2);
        fault("may call from", 1, 4, 2);
        fault("may call from red", 1, 4, 2);
        fault("may call from days", 1, 4, 2);
        fault("may call from grey grey", 1, 5, 2);
        fault("feast to", 1, 2, 2);
        fault("feast 1:1 to grey", 1, 3, 2);
        fault("feast 1.to grey", 1, 4, 2);
        fault("feast 1.1 from grey", 1, 5, 2);
        fault("feast 1.1 to", 1, 6, 2);
        fault("feast 1.1 to grey.", 1, 7, 2);
        fault("heir days", 1, 2, 2);
        fault("heir 5 weeks to grey", 1, 3, 2);
        fault("heir 5 days grey", 1, 4, 2);
        fault("heir 5 days to", 1, 5, 2);
        fault("heir 5 days to grey 5", 1, 6, 2);
        fault("under", 1, 2, 2);
        fault("under 5 days to grey", 1, 3, 2);
        fault("under 5 to 5", 1, 4, 2);
        fault("under 5 to grey;", 1, 5, 2);
        fault("wedding", 1, 2, 2);
        fault("wedding end grey", 1, 2, 2);
        fault("wedding ends", 1, 3, 2);
        fault("wedding ends grey lilac", 1, 4, 2);
        fault("weddingends grey", 1, 1, 2);
        fault("fo r son: black 1 days", 1, 1, 2);
        fault("forson: black 1 days", 1, 1, 2);
    }

    private static void numbers() {
        fault("for son: black 0 days", 1, 5, 3);
        fault("for son: black 1000 days", 1, 5, 3);
        fault("for son: black 99999999999999999999999 days", 1, 5, 3);
        fault("for son: black 4294967297 days", 1, 5, 3);
        fault("for son: black 2 days, grey 0 weeks", 1, 9, 3);
        fault("for son: black 0", 1, 5, 3);
        fault("feast 0.1 to grey", 1, 2, 3);
        fault("feast 13.1 to grey", 1, 2, 3);
        fault("feast 13.99 to red", 1, 2, 3);
        fault("feast 1.0 to grey", 1, 4, 3);
        int[] lengths = {31, 29, 31, 30, 31, 30, 31, 31, 30, 31, 30, 31};
        for (int month = 1; month <= 12; month++) {
            good("feast " + month + "." + lengths[month - 1] + " to grey", 0);
            fault("feast " + month + "." + (lengths[month - 1] + 1) + " to grey", 1, 4, 3);
        }
        fault("heir 0 days to grey", 1, 2, 3);
        fault("heir 401 days to grey", 1, 2, 3);
        fault("under 0 to grey", 1, 2, 3);
        fault("under 31 to grey", 1, 2, 3);
        good("heir 400 days to grey\nheir 1 days to grey\nunder 30 to grey\nunder 1 to grey", 0);
        good("for son: black 999 days, grey 1 years", 1);
        good("for son: black 007 days\nunder 00000000000000000000000030 to grey", 1);
    }

    private static void notLighter() {
        fault("for son: black 1 days, black 1 days", 1, 8, 4);
        fault("for son: grey 1 days, crape 1 days", 1, 8, 4);
        fault("for son: crape 1 days, grey 1 days, black 1 days", 1, 12, 4);
        fault("for son: grey 1 days, crape", 1, 8, 4);
        fault("for son: crape 1 days, black 1 days, grey 1 days, lilac 1 days, lilac 1 days", 1, 20, 6);
    }

    private static void twice() {
        fault("for son: black 1 days; wait; wait", 1, 10, 5);
        fault("for son: black 1 days; firm; wait; firm", 1, 12, 5);
        fault("for son: black 1 days; news; news; cry", 1, 10, 5);
        fault("for son: black 1 days; men half; men half", 1, 11, 5);
        good("for son: black 1 days; news; firm; wait; men half", 1);
        good("for son: black 1 days; wait\nfor son: black 1 days; wait", 2);
    }

    private static void tooMany() {
        good("for son of son of son of son: crape 1 days, black 1 days, grey 1 days, lilac 1 days", 1);
        fault("for son of son of son of son of son: black 1 days", 1, 10, 6);
        fault("for son of son of son of son of x", 1, 10, 2);
        fault("for son of son of son of son of", 1, 10, 2);
        fault("for son: crape 1 days, black 1 days, grey 1 days, lilac 1 days, crape", 1, 20, 6);
        fault("for son: crape 1 days, black 1 days, grey 1 days, lilac 1 days, colours 1 days", 1, 20, 2);
        fault("for son: crape 1 days, black 1 days, grey 1 days, lilac 1 days,", 1, 20, 2);
        String rules = "for son: black 1 days\n".repeat(30);
        good(rules, 30);
        good(rules + "may call from grey\nunder 3 to grey\n", 30);
        fault(rules + "for x", 31, 1, 6);
        fault(rules + "\n for", 32, 1, 6);
        fault(rules + "for ?", 31, 2, 1);
        String feasts = "feast 1.1 to grey\n".repeat(8);
        good(feasts, 0);
        fault(feasts + "feast 99", 9, 1, 6);
        fault(feasts + "# feast\nfeast 1.1 to grey", 10, 1, 6);
        good(("may call from grey\nheir 3 days to grey\nunder 3 to grey\nwedding ends grey\n").repeat(12), 0);
    }

    /** A text with a fault leaves nothing in the law of the next one. */
    private static void nothingLeft() {
        MourningHouse h = new MourningHouse();
        String all = "for son: grey 1 days\nwedding ends crape\nmay call from crape\nfeast 1.2 to colours\n"
            + "heir 400 days to colours\nunder 30 to colours\n";
        Check.due("take", Check.take(h, all + "x"), -1);
        Check.due("take", Check.take(h, "for father: black 9 days"), 1);
        h.person(10, -1, -1, -9000);
        h.person(0, 0, -1, 0);
        h.person(10, -1, 1, 0);
        h.death(0, 0);
        h.wed(1, 2, 0);
        Check.due("depth", h.depth(1, 0, 0), 3);
        Check.due("depth", h.depth(1, 1, 0), 3);
        Check.no("may", h.may(1, 0, 0, 0));
        Check.due("rules", h.write(0, 1), -1);
    }

    private static void lines() {
        good("\n\n   \n# for\n  # for\nfor son: black 1 days\n\n", 1);
        good("for   son of   son  :black   12days,grey 3 weeks;wait ; news # x", 1);
        good("for son:black 1 days#; wait; wait", 1);
        fault("for son:\nblack 1 days", 1, 4, 2);
        fault("\n\n\nfor\n", 4, 2, 2);
    }

    private static void goodLines() {
        String kin = "spouse husband wife child son daughter parent father mother sibling brother sister";
        int rules = 0;
        StringBuilder text = new StringBuilder();
        for (String w : kin.split(" ")) {
            text.append("for ").append(w).append(": lilac 1 days\n");
            rules++;
        }
        good(text.toString(), rules);
        for (String stuff : "crape black grey lilac colours".split(" ")) {
            for (String act : "call dine dance wed".split(" ")) {
                good("may " + act + " from " + stuff, 0);
            }
            good("feast 2.29 to " + stuff + "\nheir 7 days to " + stuff + "\nunder 7 to " + stuff
                + "\nwedding ends " + stuff, 0);
        }
    }

    private static void writes(MourningHouse h, int law, int rule, String want) {
        Check.due("write of " + want, h.write(law, rule), want.length());
        for (int i = 0; i < want.length(); i++) {
            Check.due("byte " + i + " of " + want, h.out(i), want.charAt(i));
        }
        Check.due("byte behind", h.out(want.length()), -1);
        Check.due("byte ahead", h.out(-1), -1);
    }

    private static void written() {
        MourningHouse h = Check.under("for  son   of wife:black 10days ,grey 7 weeks;news ;firm; wait;men half # x\n"
            + "may call from grey\nfor daughter of daughter of daughter of daughter: crape 999 months, black 100 months,"
            + "grey 99 months,lilac 9 years", 2);
        writes(h, 0, 0, "for son of wife: black 10 days, grey 7 weeks; men half; wait; firm; news");
        writes(h, 0, 1, "for daughter of daughter of daughter of daughter:"
            + " crape 999 months, black 100 months, grey 99 months, lilac 9 years");
        Check.due("take", Check.take(h, "for spouse: lilac 1 days; firm"), 1);
        writes(h, 1, 0, "for spouse: lilac 1 days; firm");
        Check.due("no such rule", h.write(1, 1), -1);
        Check.due("no such rule", h.write(1, -1), -1);
        Check.due("no such law", h.write(2, 0), -1);
        Check.due("no such law", h.write(-1, 0), -1);
        // What is refused changes nothing.
        Check.due("out stays", h.out(29), 'm');
    }

    private static void quarrels() {
        MourningHouse h = Check.under(
            "for son: black 1 days\nfor wife of son: grey 1 days\nfor son: black 1 days; wait\n"
            + "for son of wife: grey 2 days\nfor wife of son: grey 1 weeks\nfor son: black 1 days\n"
            + "for son: black 1 days, grey 1 days\n", 7);
        int[] want = {2, 6, 104, 205, 206, 506, -1};
        for (int i = 0; i < want.length; i++) {
            Check.due("quarrel " + i, h.quarrel(0, i), want[i]);
        }
        Check.due("quarrel -1", h.quarrel(0, -1), -1);
        Check.due("no such law", h.quarrel(1, 0), -1);
        Check.due("no such law", h.quarrel(-1, 0), -1);
        MourningHouse peace = Check.under("for son: black 1 days; wait; firm\nfor son: black 1 days; firm; wait\n"
            + "for brother: black 2 days", 3);
        Check.due("no quarrel", peace.quarrel(0, 0), -1);
        MourningHouse units = Check.under("for son: black 7 days\nfor son: black 1 weeks\nfor son: crape 7 days\nfor son: black 8 days", 4);
        Check.due("units", units.quarrel(0, 0), 1);
        Check.due("all six", units.quarrel(0, 5), 203);
        Check.due("no more", units.quarrel(0, 6), -1);
    }
}
