/** The boundary cases of promises 1 to 5 and 31 to 33, and of the terms' parts 3 and 7: a sentence, a test. */
public final class TextEdgesTest {
    private static final int LEAST = Integer.MIN_VALUE;
    private static final int MOST = Integer.MAX_VALUE;
    private static final String[] KIN = {"spouse", "husband", "wife", "child", "son", "daughter", "parent", "father",
        "mother", "sibling", "brother", "sister"};
    private static final String[] STUFFS = {"colours", "lilac", "grey", "black", "crape"};
    private static final String[] WORDS = {"for", "of", "may", "from", "call", "dine", "dance", "wed", "feast", "to",
        "heir", "days", "weeks", "months", "years", "under", "wedding", "ends", "men", "half", "wait", "firm", "news"};
    private static final String[] SIGNS = {":", ",", ";", "."};

    public static void main(String[] args) {
        nobodyNoLawNoDresses();
        objectsAreTheirOwn();
        highestByteFirst();
        everyByte();
        threeThousandBytes();
        theLastBytesCount();
        firstBytesAlone();
        cutBytesAreGone();
        emptyTexts();
        rulesOfALaw();
        emptyThen();
        sixLaws();
        lawsStayWithAFault();
        latestTextRead();
        linesEndAtTens();
        tokensAndBlanks();
        longWordsAndNumbers();
        remarks();
        linesOverTooEarly();
        tokensThatCannotStand();
        oneTokenMore();
        strangeBytesFirst();
        fourKin();
        fourParts();
        partNumbers();
        lighterParts();
        optionsOnce();
        feastDates();
        heirNumbers();
        underNumbers();
        thirtyRules();
        eightFeasts();
        firstFaultOfAll();
        lastOneCounts();
        writtenRules();
        outBytes();
        quarrelsNumbered();
        quarrelsByWrittenLines();
        Check.done();
    }

    private static void takes(String text, int rules) {
        MourningHouse h = new MourningHouse();
        Check.due("take of " + text, Check.take(h, text), rules);
        Check.due("line of " + text, h.fault(0), 0);
        Check.due("token of " + text, h.fault(1), 0);
        Check.due("kind of " + text, h.fault(2), 0);
        Check.due("laws by " + text, h.count(2), 1);
    }

    private static void fault(String text, int line, int token, int kind) {
        MourningHouse h = new MourningHouse();
        Check.due("take of " + text, Check.take(h, text), -1);
        Check.due("line of " + text, h.fault(0), line);
        Check.due("token of " + text, h.fault(1), token);
        Check.due("kind of " + text, h.fault(2), kind);
        Check.due("laws by " + text, h.count(2), 0);
        Check.due("bytes left of " + text, h.count(9), 0);
    }

    private static void writes(MourningHouse h, int law, int rule, String want) {
        Check.due("write of " + want, h.write(law, rule), want.length());
        for (int i = 0; i < want.length(); i++) {
            Check.due("byte " + i + " of " + want, h.out(i), want.charAt(i));
        }
        Check.due("byte behind " + want, h.out(want.length()), -1);
    }

    // ---- Promise 1: "Nobody, no LAW, no DRESSES; NOW is 0." ----

    private static void nobodyNoLawNoDresses() {
        isNew(new MourningHouse());
    }

    private static void objectsAreTheirOwn() {
        MourningHouse other = new MourningHouse();
        RefusalTest.household(other);
        isNew(new MourningHouse());
        Check.due("the other one's people", other.count(1), 7);
    }

    private static void isNew(MourningHouse h) {
        for (int what = 0; what < 15; what++) {
            Check.due("count(" + what + ")", h.count(what), 0);
        }
        for (int what = 0; what < 7; what++) {
            Check.due("told", h.told(0, what), Check.NO_ANSWER);
        }
        for (int what = 0; what < 4; what++) {
            Check.due("worn", h.worn(0, what), -1);
            Check.due("stands", h.stands(0, what), -1);
            Check.due("fault", h.fault(what), what < 3 ? 0 : -1);
        }
        Check.no("kin", h.kin(0, 0, 0, 0));
        Check.due("mourns", h.mourns(0, 0, 0), -1);
        Check.due("depth", h.depth(0, 0, 0), -1);
        Check.due("last", h.last(0, 0), Check.NO_ANSWER);
        Check.due("edge", h.edge(0, 0), -1);
        Check.no("may", h.may(0, 0, 0, 0));
        Check.due("deed", h.deed(0, 0), -1);
        Check.due("best", h.best(0, 0, 0, 0), 0);
        Check.due("best", h.best(0, 0, 0, 1), 0);
        Check.due("first", h.first(0, 0, 0), Check.NO_ANSWER);
        Check.no("death", h.death(0, 0));
        Check.due("wed", h.wed(0, 1, 0), -1);
        Check.due("dye", h.dye(0, 4), -1);
        Check.due("make", h.make(0, 0), -1);
        Check.due("plan", h.plan(1, 0, 0), -1);
        Check.due("planned", h.planned(1, 0, 0), -1);
        Check.due("write", h.write(0, 0), -1);
        Check.due("out", h.out(0), -1);
        Check.due("quarrel", h.quarrel(0, 0), -1);
        Check.no("end", h.end(1));
        Check.due("go", h.go(0), 0);
        Check.due("person", h.person(0, -1, -1, 0), 0);
        Check.due("dress", h.dress(0, 0), 0);
        Check.due("court", h.court(0, 1, 1), 0);
    }

    // ---- Promise 2: feed ----

    /** "Bytes come behind those of the TEXT, of each number the highest first (20 of them): how many there are" */
    private static void highestByteFirst() {
        MourningHouse h = new MourningHouse();
        Check.due("feed", h.feed(0x666f7220, 0x736f6e3a, 0x6c696c61, 0x63203220, 0x64617973), 20);
        Check.due("feed", h.feed(0x3b207761, 0x69740a6d, 0x61792063, 0x616c6c20, 0x66726f6d), 40);
        Check.due("feed", h.feed(0x20677265, 0x790a2020, 0x20202020, 0x20202020, 0x20202020), 60);
        Check.due("take", h.take(), 1);
        writes(h, 0, 0, "for son: lilac 2 days; wait");
    }

    /** A byte at each of the twenty places, by its highest bits and its lowest ones. */
    private static void everyByte() {
        for (int place = 0; place < 20; place++) {
            for (int b : new int[] {1, 31, 127, 128, 200, 255}) {
                int[] five = {0x61206120, 0x61206120, 0x61206120, 0x61206120, 0x61206120};
                int shift = 24 - place % 4 * 8;
                five[place / 4] = five[place / 4] & ~(255 << shift) | b << shift;
                MourningHouse h = new MourningHouse();
                Check.due("feed", h.feed(five[0], five[1], five[2], five[3], five[4]), 20);
                Check.due("take", h.take(), -1);
                Check.due("token of byte " + b + " at " + place, h.fault(1), (place + 1) / 2 + 1);
                Check.due("kind of byte " + b + " at " + place, h.fault(2), 1);
            }
        }
        // The lowest byte is the last one, and ends a line.
        MourningHouse h = new MourningHouse();
        Check.due("feed", h.feed(0x2020200a, 0x0a202020, 0x20200a20, 0x20202020, 0x2020207a), 20);
        Check.due("take", h.take(), -1);
        Check.due("line", h.fault(0), 4);
        Check.due("token", h.fault(1), 1);
    }

    private static int blanks(MourningHouse h) {
        return h.feed(0x20202020, 0x20202020, 0x20202020, 0x20202020, 0x20202020);
    }

    /** "NONE if there would be more than 3000" */
    private static void threeThousandBytes() {
        MourningHouse h = new MourningHouse();
        for (int size = 20; size <= 3000; size += 20) {
            Check.due("feed", blanks(h), size);
        }
        Check.due("feed behind 3000", blanks(h), -1);
        Check.due("bytes", h.count(9), 3000);
        for (int size = 2999; size > 2980; size--) {
            Check.yes("end", h.end(size));
            Check.due("feed behind " + size, blanks(h), -1);
            Check.due("bytes", h.count(9), size);
        }
        Check.yes("end", h.end(2980));
        Check.due("feed behind 2980", blanks(h), 3000);
        Check.yes("end", h.end(2979));
        Check.due("feed behind 2979", blanks(h), 2999);
        Check.due("take", h.take(), 0);
        Check.due("feed into the empty text", blanks(h), 20);
    }

    private static void theLastBytesCount() {
        MourningHouse h = new MourningHouse();
        for (int i = 0; i < 149; i++) {
            blanks(h);
        }
        Check.due("feed", h.feed(0x666f7220, 0x736f6e3a, 0x6c696c61, 0x63203220, 0x64617973), 3000);
        Check.due("take", h.take(), 1);
        writes(h, 0, 0, "for son: lilac 2 days");
        for (int i = 0; i < 149; i++) {
            blanks(h);
        }
        Check.due("feed", h.feed(0x20202020, 0x20202020, 0x20202020, 0x20202020, 0x2020203f), 3000);
        Check.due("take", h.take(), -1);
        Check.due("the 3000th byte", h.fault(2), 1);
    }

    // ---- Promise 3: end ----

    /** "The TEXT has its first n bytes alone: true; false if it has not so many, or n is below 0." */
    private static void firstBytesAlone() {
        MourningHouse h = new MourningHouse();
        Check.yes("end(0) of none", h.end(0));
        for (int n : new int[] {1, -1, 20, LEAST, MOST}) {
            Check.no("end of none", h.end(n));
        }
        blanks(h);
        for (int n : new int[] {21, -1, 3000, LEAST, MOST}) {
            Check.no("end of twenty", h.end(n));
            Check.due("bytes", h.count(9), 20);
        }
        Check.yes("end(20)", h.end(20));
        Check.due("bytes", h.count(9), 20);
        Check.yes("end(19)", h.end(19));
        Check.due("bytes", h.count(9), 19);
        Check.no("end(20)", h.end(20));
        Check.yes("end(1)", h.end(1));
        Check.yes("end(0)", h.end(0));
        Check.due("bytes", h.count(9), 0);
        Check.no("end(1)", h.end(1));
    }

    private static void cutBytesAreGone() {
        // A word, a number and a line's end that went on behind the cut.
        MourningHouse h = new MourningHouse();
        h.feed(0x666f7220, 0x736f6e3a, 0x6c696c61, 0x63203220, 0x64617973);
        h.feed(0x64617973, 0x64617973, 0x64617973, 0x64617973, 0x64617973);
        Check.yes("end", h.end(20));
        Check.due("take", h.take(), 1);
        writes(h, 0, 0, "for son: lilac 2 days");
        h.feed(0x756e6465, 0x72203939, 0x39393939, 0x39393939, 0x39393939);
        Check.yes("end", h.end(7));
        Check.due("take", h.take(), -1);
        Check.due("token", h.fault(1), 3);
        Check.due("kind", h.fault(2), 2);
        h.feed(0x756e6465, 0x72203939, 0x39393939, 0x39393939, 0x39393939);
        Check.yes("end", h.end(6));
        Check.due("take", h.take(), -1);
        Check.due("token", h.fault(1), 2);
        Check.due("kind", h.fault(2), 2);
        // What is fed next stands behind the cut.
        h.feed(0x666f7220, 0x736f6e3a, 0x3f3f3f3f, 0x3f3f3f3f, 0x3f3f3f3f);
        Check.yes("end", h.end(8));
        Check.due("feed", h.feed(0x6c696c61, 0x63203220, 0x64617973, 0x20202020, 0x20202020), 28);
        Check.due("take", h.take(), 1);
        writes(h, 1, 0, "for son: lilac 2 days");
    }

    // ---- Promise 4: take ----

    private static void emptyTexts() {
        for (String text : new String[] {"", " ", "\n", "\n\n\n", "#", "#\n#", "   # for son", "\n \n#?\u00ff\n"}) {
            takes(text, 0);
        }
        MourningHouse h = new MourningHouse();
        Check.due("take of none", h.take(), 0);
        Check.due("laws", h.count(2), 1);
        Check.due("rule of none", h.write(0, 0), -1);
        Check.due("quarrel of none", h.quarrel(0, 0), -1);
    }

    /** "how many RULES the LAW has" */
    private static void rulesOfALaw() {
        takes("may call from grey\nfeast 1.1 to grey\nheir 1 days to grey\nunder 1 to grey\nwedding ends grey", 0);
        takes("for son: grey 1 days", 1);
        takes("for son: grey 1 days\nmay call from grey\nfor son: grey 1 days\n", 2);
        takes("for son: grey 1 days\n".repeat(29), 29);
        takes("for son: grey 1 days\n".repeat(30), 30);
    }

    /** "The TEXT is TAKEN, and empty then"; "NONE with a FAULT (the TEXT is empty then, too)" */
    private static void emptyThen() {
        MourningHouse h = new MourningHouse();
        Check.due("take", Check.take(h, "for son: grey 1 days\n"), 1);
        Check.due("bytes", h.count(9), 0);
        Check.due("take", Check.take(h, "for son: grey 1 days\nfor"), -1);
        Check.due("bytes", h.count(9), 0);
        Check.no("end", h.end(1));
        Check.due("take of none", h.take(), 0);
        Check.due("laws", h.count(2), 2);
    }

    /** "a LAW (at most 6)"; "NONE ... if 6 LAWS are there (then it stays)" */
    private static void sixLaws() {
        MourningHouse h = new MourningHouse();
        for (int i = 1; i <= 6; i++) {
            Check.due("faulty take", Check.take(h, "x"), -1);
            Check.due("take " + i, Check.take(h, "for son: grey " + i + " days"), 1);
            Check.due("laws", h.count(2), i);
        }
        Check.feed(h, "for son: grey 7 days");
        Check.due("take 7", h.take(), -1);
        Check.due("laws", h.count(2), 6);
        Check.due("bytes", h.count(9), 20);
        Check.due("take 7 again", h.take(), -1);
        Check.due("feed behind it", blanks(h), 40);
        Check.yes("end", h.end(39));
        for (int i = 1; i <= 6; i++) {
            writes(h, i - 1, 0, "for son: grey " + i + " days");
        }
        Check.due("no seventh", h.write(6, 0), -1);
        Check.due("none ahead", h.write(-1, 0), -1);
    }

    private static void lawsStayWithAFault() {
        MourningHouse h = Check.under("for son: grey 3 days; wait", 1);
        Check.due("take", Check.take(h, "for wife: black 9 days; men half; firm; news\nfor son"), -1);
        Check.due("laws", h.count(2), 1);
        writes(h, 0, 0, "for son: grey 3 days; wait");
        Check.due("no other rule", h.write(0, 1), -1);
        // Nor does it leave anything in the law that comes next.
        Check.due("take", Check.take(h, "for wife: lilac 9 days"), 1);
        writes(h, 1, 0, "for wife: lilac 9 days");
        Check.due("no other rule", h.write(1, 1), -1);
        MourningHouse clean = new MourningHouse();
        Check.due("take", Check.take(clean, "may call from crape\nmay dine from crape\nmay dance from crape\nmay wed from crape\n"
            + "feast 1.1 to colours\n".repeat(8) + "heir 400 days to colours\nunder 30 to colours\nwedding ends crape\nx"), -1);
        Check.due("take", Check.take(clean, "for father: black 9 days"), 1);
        clean.person(10, -1, -1, -9000);
        clean.person(0, 0, -1, -5000);
        clean.person(10, -1, -1, -5000);
        clean.wed(1, 2, 0);
        clean.person(0, 2, 1, 0);
        clean.death(0, 0);
        Check.due("neither feast, heir, under nor wedding", clean.depth(1, 0, 0), 3);
        Check.due("nor an end", clean.last(1, 0), 8);
        for (int act = 0; act < 4; act++) {
            Check.no("nor may", clean.may(1, act, 0, 0));
        }
        Check.due("eight feasts of its own", Check.take(clean, "feast 1.1 to grey\n".repeat(8)), 0);
    }

    // ---- Promise 5: "Of the FAULT of the latest TEXT that was read: ...; 0 if it had none, or none was read; NONE for others" ----

    private static void latestTextRead() {
        MourningHouse h = new MourningHouse();
        int[][] want = {{0, 0, 0}, {2, 3, 2}, {2, 3, 2}, {1, 2, 3}, {0, 0, 0}};
        for (int i = 0; i < want.length; i++) {
            switch (i) {
                case 1 -> Check.due("take", Check.take(h, "\nfor son"), -1);
                case 2 -> Check.feed(h, "for ?");
                case 3 -> {
                    Check.yes("end", h.end(0));
                    Check.due("take", Check.take(h, "under 31 to grey"), -1);
                }
                case 4 -> Check.due("take", Check.take(h, "under 30 to grey"), 0);
                default -> Check.due("none read", h.count(9), 0);
            }
            for (int what = 0; what < 3; what++) {
                Check.due("fault(" + what + ") after " + i, h.fault(what), want[i][what]);
            }
            for (int what : new int[] {-1, 3, LEAST, MOST}) {
                Check.due("fault(" + what + ")", h.fault(what), -1);
            }
        }
    }

    // ---- Terms 3: lines and tokens ----

    /** "LINES end at bytes 10" */
    private static void linesEndAtTens() {
        takes("for son: grey 1 days\nfor son: grey 1 days\n", 2);
        takes("for son: grey 1 days\n\n", 1);
        fault("for son: grey 1 days for son: grey 1 days", 1, 7, 2);
        fault("for son: grey 1 days\rfor son: grey 1 days", 1, 7, 1);
        fault("for son: grey 1\ndays", 1, 6, 2);
        fault("x", 1, 1, 2);
        fault("\nx", 2, 1, 2);
        fault("\n\n\n\n\n\n\n\n\n\n\n\nx\n\n", 13, 1, 2);
        fault("\n".repeat(2979) + "x", 2980, 1, 2);
        fault("may call from\n", 1, 4, 2);
        fault("may call from\ngrey", 1, 4, 2);
    }

    /** What each of the 256 bytes begins, alone on its line. */
    private static void tokensAndBlanks() {
        for (int b = 0; b < 256; b++) {
            String text = "" + (char) b;
            boolean token = b >= 'a' && b <= 'z' || b >= '0' && b <= '9' || b == ':' || b == ',' || b == ';' || b == '.';
            if (b == 10 || b == 32 || b == '#') {
                takes(text, 0);
            } else {
                fault(text, 1, 1, token ? 2 : 1);
                fault("may" + text, 1, b >= 'a' && b <= 'z' ? 1 : 2, token ? 2 : 1);
            }
        }
        String line = "for son of wife:grey 1 days,lilac 2 weeks;wait;men half";
        takes(line, 1);
        takes("   " + line.replace(" ", "    ") + "   ", 1);
        takes(line.replace(":", "  :  ").replace(",", " , ").replace(";", "   ;"), 1);
        takes("for son:grey1days,lilac2weeks", 1);
        takes("feast1.2to grey", 0);
        takes("feast 1 . 2 to grey", 0);
        takes("heir12days to grey\nunder12to grey", 0);
    }

    /** "WORDS of small letters, as long as can be; NUMBERS of digits, likewise" */
    private static void longWordsAndNumbers() {
        fault("forson: grey 1 days", 1, 1, 2);
        fault("for son: grey 1 daysmen", 1, 6, 2);
        fault("for so n: grey 1 days", 1, 2, 2);
        fault("for son: grey 1 1 days", 1, 6, 2);
        fault("for son: grey 1000 days", 1, 5, 3);
        fault("for " + "z".repeat(2900) + ": grey 1 days", 1, 2, 2);
        fault("under " + "9".repeat(2900) + " to grey", 1, 2, 3);
        fault("under " + "1".repeat(10) + " to grey", 1, 2, 3);
        fault("under 4294967297 to grey", 1, 2, 3);
        fault("under 18446744073709551617 to grey", 1, 2, 3);
        fault("under 2147483648 to grey", 1, 2, 3);
    }

    /** "from # on nothing matters to the LINE's end" */
    private static void remarks() {
        takes("for son: grey 1 days#x", 1);
        takes("for son: grey 1 days # ? \u00ff # \r x", 1);
        takes("#for\nfor son: grey 1 days", 1);
        fault("for son: grey 1 # days", 1, 6, 2);
        fault("# ?\n?", 2, 1, 1);
        fault("#\nx", 2, 1, 2);
    }

    // ---- Terms 3: "the TOKEN in it (from 1 on; one behind the last one, if the LINE is over too early)" ----

    private static final String[] LINES = {
        "for son of wife of son of father : crape 1 days , black 2 weeks , grey 3 months , lilac 4 years ; men half ; wait ; firm ; news",
        "for spouse : lilac 999 days", "may call from colours", "feast 2 . 29 to grey", "heir 400 days to lilac",
        "under 30 to black", "wedding ends crape"};

    private static String upTo(String[] tokens, int n) {
        StringBuilder text = new StringBuilder();
        for (int i = 0; i < n; i++) {
            text.append(tokens[i]).append(' ');
        }
        return text.toString();
    }

    /** Whether a line that is over behind its first n tokens is whole: behind a P's unit, or an O. */
    private static boolean isWhole(String[] tokens, int n) {
        String last = tokens[n - 1];
        boolean unit = last.equals("days") || last.equals("weeks") || last.equals("months") || last.equals("years");
        return n == tokens.length || tokens[0].equals("for")
            && (unit || last.equals("half") || last.equals("wait") || last.equals("firm") || last.equals("news"));
    }

    private static void linesOverTooEarly() {
        for (String line : LINES) {
            String[] tokens = line.split(" ");
            for (int n = 1; n <= tokens.length; n++) {
                if (isWhole(tokens, n)) {
                    takes(upTo(tokens, n), tokens[0].equals("for") ? 1 : 0);
                } else {
                    fault(upTo(tokens, n), 1, n + 1, 2);
                    fault("# one\n" + upTo(tokens, n) + "# other\nx", 2, n + 1, 2);
                }
            }
        }
    }

    /** "2 a TOKEN that can't stand there": each other kind of token in each one's place. */
    private static void tokensThatCannotStand() {
        for (String line : LINES) {
            String[] tokens = line.split(" ");
            for (int n = 0; n < tokens.length; n++) {
                String kept = tokens[n];
                for (String[] others : new String[][] {KIN, STUFFS, WORDS, SIGNS, {"x", "7", "fo", "fors"}}) {
                    for (String other : others) {
                        if (!other.equals(kept) && !canStand(tokens, n, other)) {
                            tokens[n] = other;
                            fault(upTo(tokens, tokens.length), 1, n + 1, 2);
                            tokens[n] = kept;
                        }
                    }
                }
            }
        }
    }

    /** Whether a token may stand in another one's place; what comes behind it may be wrong then. */
    private static boolean canStand(String[] tokens, int n, String other) {
        String kept = tokens[n];
        if (n == 0) {
            return isOne(other, "for", "may", "feast", "heir", "under", "wedding");
        }
        if (kept.equals("of") || kept.equals(":")) {
            return isOne(other, "of", ":");
        }
        if (kept.equals(",") || kept.equals(";")) {
            return isOne(other, ",", ";");
        }
        if (kept.equals("days") && tokens[0].equals("heir")) {
            return false;
        }
        boolean part = tokens[0].equals("for") && isOne(kept, STUFFS);
        return isOne(kept, KIN) && isOne(other, KIN)
            || isOne(kept, STUFFS) && isOne(other, STUFFS) && !(part && other.equals("colours"))
            || isOne(kept, "days", "weeks", "months", "years") && isOne(other, "days", "weeks", "months", "years")
            || isOne(kept, "call") && isOne(other, "call", "dine", "dance", "wed")
            || isOne(kept, "men", "wait", "firm", "news") && isOne(other, "men", "wait", "firm", "news")
            || kept.charAt(0) <= '9' && kept.charAt(0) >= '0' && other.equals("7");
    }

    private static boolean isOne(String word, String... words) {
        for (String w : words) {
            if (w.equals(word)) {
                return true;
            }
        }
        return false;
    }

    private static void oneTokenMore() {
        for (String line : LINES) {
            int tokens = line.split(" ").length;
            for (String more : new String[] {"x", "7", "grey", "days", ":", ".", "for", "half"}) {
                fault(line + " " + more, 1, tokens + 1, 2);
            }
            for (String more : new String[] {",", ";"}) {
                boolean goesOn = line.startsWith("for") && (more.equals(";") || !line.contains(";"));
                fault(line + " " + more, 1, tokens + (goesOn ? 2 : 1), 2);
            }
        }
    }

    /** "(1 is ahead of all others of its LINE.)" */
    private static void strangeBytesFirst() {
        fault("x ?", 1, 2, 1);
        fault("x y z : 7 ?", 1, 6, 1);
        fault("for son: grey 1000 days; wait; wait ?", 1, 11, 1);
        fault("for son: lilac 1 days, grey 1 days ?", 1, 11, 1);
        fault("for son of son of son of son of son ?", 1, 11, 1);
        fault("for son: grey 1 days\n".repeat(30) + "for ?", 31, 2, 1);
        fault("feast 1.1 to grey\n".repeat(8) + "feast ?", 9, 2, 1);
        fault("x #?", 1, 1, 2);
        fault("x\n?", 1, 1, 2);
        fault("?\nx", 1, 1, 1);
        // Lines have far more tokens than those without a fault.
        fault("a ".repeat(63) + "?", 1, 64, 1);
        fault("a ".repeat(64) + "?", 1, 65, 1);
        fault("a ".repeat(65) + "?", 1, 66, 1);
        fault(":".repeat(2979) + "?", 1, 2980, 1);
        fault("a ".repeat(1400), 1, 1, 2);
    }

    // ---- Terms 3: "at most 4 W, 4 P"; "6 too many: the fifth W or P (at it, or its C; if it is one; ahead of 4)" ----

    private static void fourKin() {
        for (String w : KIN) {
            takes("for " + w + ": grey 1 days", 1);
            takes("for " + w + " of " + w + ": grey 1 days", 1);
            takes("for " + w + " of " + w + " of " + w + ": grey 1 days", 1);
            takes("for " + w + " of " + w + " of " + w + " of " + w + ": grey 1 days", 1);
            fault("for " + w + " of " + w + " of " + w + " of " + w + " of " + w + ": grey 1 days", 1, 10, 6);
            fault("for son of son of son of son of " + w, 1, 10, 6);
        }
        fault("for son of son of son of son of son of son of son: grey 0 days", 1, 10, 6);
        for (String other : new String[] {"grey", "of", ":", "7", "x", ""}) {
            fault("for son of son of son of son of " + other, 1, 10, 2);
        }
        fault("for son of son of son of son son", 1, 9, 2);
    }

    private static void fourParts() {
        String four = "for son: crape 1 days, black 1 days, grey 1 days, lilac 1 days";
        takes(four, 1);
        takes(four.substring(0, four.lastIndexOf(',')), 1);
        for (String c : new String[] {"crape", "black", "grey", "lilac"}) {
            fault(four + ", " + c + " 1 days", 1, 20, 6);
            fault(four + ", " + c, 1, 20, 6);
            fault(four + ", " + c + " 0 x", 1, 20, 6);
        }
        for (String other : new String[] {"colours", "son", "days", "1", ",", "x", ""}) {
            fault(four + ", " + other, 1, 20, 2);
        }
    }

    // ---- Terms 3: "N is 1 .. 999"; "3 a NUMBER that can't be" ----

    private static void partNumbers() {
        for (String unit : new String[] {"days", "weeks", "months", "years"}) {
            for (String n : new String[] {"1", "2", "10", "100", "998", "999"}) {
                MourningHouse h = Check.under("for son: crape 5 days, grey " + n + " " + unit, 1);
                writes(h, 0, 0, "for son: crape 5 days, grey " + n + " " + unit);
            }
            for (String n : new String[] {"0", "00", "1000", "1001", "9999", "2147483648", "99999999999999999999"}) {
                fault("for son: grey " + n + " " + unit, 1, 5, 3);
                fault("for son: crape 5 days, grey " + n + " " + unit, 1, 9, 3);
            }
        }
        fault("for son: grey 0", 1, 5, 3);
        fault("for son: grey 1000 x", 1, 5, 3);
    }

    /** "each P but the first one lighter than the one ahead of it"; "4 a P that isn't lighter (at its C)" */
    private static void lighterParts() {
        for (int one = 1; one <= 4; one++) {
            takes("for son: " + STUFFS[one] + " 1 days", 1);
            for (int other = 1; other <= 4; other++) {
                String text = "for son: " + STUFFS[one] + " 1 days, " + STUFFS[other];
                if (other < one) {
                    takes(text + " 1 days", 1);
                } else {
                    fault(text + " 1 days", 1, 8, 4);
                    fault(text, 1, 8, 4);
                    fault(text + " 1000 x", 1, 8, 4);
                }
            }
        }
        fault("for son: crape 1 days, grey 1 days, black 1 days", 1, 12, 4);
        fault("for son: crape 1 days, black 1 days, lilac 1 days, lilac 1 days", 1, 16, 4);
        // Each rule has its own first one.
        takes("for son: lilac 1 days\nfor son: crape 1 days\nfor son: crape 1 days", 3);
    }

    /** "O is one of: men half; wait; firm; news (each once at most)"; "5 an O that was there" */
    private static void optionsOnce() {
        String[] options = {"men half", "wait", "firm", "news"};
        for (String one : options) {
            takes("for son: grey 1 days; " + one, 1);
            for (String other : options) {
                String text = "for son: grey 1 days; " + one + "; " + other;
                int at = one.equals("men half") ? 11 : 10;
                if (other.equals(one)) {
                    fault(text, 1, at, 5);
                    fault(text + "; x", 1, at, 5);
                } else {
                    takes(text, 1);
                    fault(text + "; " + one, 1, at + (other.equals("men half") ? 3 : 2), 5);
                }
            }
        }
        takes("for son: grey 1 days; news; firm; wait; men half", 1);
        fault("for son: grey 1 days; news; firm; wait; men half; news", 1, 17, 5);
        takes("for son: grey 1 days; wait\nfor son: grey 1 days; wait", 2);
    }

    /** "the month and its day (1 .. 29 of 2, 1 .. 30 of 4 6 9 11, else 1 .. 31)" */
    private static void feastDates() {
        int[] lengths = {31, 29, 31, 30, 31, 30, 31, 31, 30, 31, 30, 31};
        for (int month = 1; month <= 12; month++) {
            for (int day = 1; day <= lengths[month - 1]; day++) {
                takes("feast " + month + "." + day + " to grey", 0);
            }
            fault("feast " + month + ".0 to grey", 1, 4, 3);
            fault("feast " + month + "." + (lengths[month - 1] + 1) + " to grey", 1, 4, 3);
            fault("feast " + month + ".4294967297 to grey", 1, 4, 3);
        }
        for (String month : new String[] {"0", "13", "14", "99", "4294967297"}) {
            fault("feast " + month + ".1 to grey", 1, 2, 3);
            fault("feast " + month, 1, 2, 3);
        }
        for (String s : STUFFS) {
            takes("feast 2.29 to " + s, 0);
        }
    }

    /** "heir N days to S    N is 1 .. 400" */
    private static void heirNumbers() {
        for (int n : new int[] {1, 2, 399, 400}) {
            for (String s : STUFFS) {
                takes("heir " + n + " days to " + s, 0);
            }
        }
        for (String n : new String[] {"0", "401", "402", "999", "4294967297"}) {
            fault("heir " + n + " days to grey", 1, 2, 3);
            fault("heir " + n + " weeks", 1, 2, 3);
        }
        for (String unit : new String[] {"weeks", "months", "years"}) {
            fault("heir 5 " + unit + " to grey", 1, 3, 2);
        }
    }

    /** "under N to S    N is 1 .. 30" */
    private static void underNumbers() {
        for (int n : new int[] {1, 2, 29, 30}) {
            for (String s : STUFFS) {
                takes("under " + n + " to " + s, 0);
            }
        }
        for (String n : new String[] {"0", "31", "32", "300", "4294967297"}) {
            fault("under " + n + " to grey", 1, 2, 3);
            fault("under " + n + " grey", 1, 2, 3);
        }
    }

    /** "the 31st LINE that begins with for (at its first TOKEN)" */
    private static void thirtyRules() {
        String thirty = "for son: grey 1 days\nmay call from grey\n".repeat(30);
        takes(thirty, 30);
        fault(thirty + "for son: grey 1 days", 61, 1, 6);
        fault(thirty + "  for", 61, 1, 6);
        fault(thirty + "\n#\nfor x 0", 63, 1, 6);
        takes(thirty + "feast 1.1 to grey\n#for\nwedding ends grey", 30);
        // Those of the text ahead don't count.
        MourningHouse h = Check.under("for son: grey 1 days\n".repeat(30), 30);
        Check.due("take", Check.take(h, "for son: grey 1 days\n".repeat(30)), 30);
        writes(h, 0, 29, "for son: grey 1 days");
        writes(h, 1, 29, "for son: grey 1 days");
        Check.due("no 31st", h.write(1, 30), -1);
    }

    /** "the 9th feast (likewise)" */
    private static void eightFeasts() {
        String eight = "feast 1.1 to grey\nmay call from grey\n".repeat(8);
        takes(eight, 0);
        takes(eight + "for son: grey 1 days\n", 1);
        fault(eight + "feast 1.1 to grey", 17, 1, 6);
        fault(eight + "  feast", 17, 1, 6);
        fault(eight + "feast 13 x", 17, 1, 6);
        MourningHouse h = Check.under("feast 1.1 to grey\n".repeat(8), 0);
        Check.due("those of the text ahead don't count", Check.take(h, "feast 1.1 to grey\n".repeat(8)), 0);
    }

    /** "the first one of a TEXT is told" */
    private static void firstFaultOfAll() {
        fault("under 0 to grey\nfor ?\nx", 1, 2, 3);
        fault("for son: lilac 1 days, grey 1 days\nunder 0 to grey", 1, 8, 4);
        fault("for son: grey 1 days; wait; wait; wait; wait", 1, 10, 5);
        fault("for son: grey 1 days\nx\ny", 2, 1, 2);
        fault("for x: grey 0 days", 1, 2, 2);
    }

    /** "heir, under, wedding and each may may be told more often: the last one counts." */
    private static void lastOneCounts() {
        MourningHouse h = Check.under("for parent: black 60 days\nmay call from crape\nmay call from lilac\nmay dine from grey\n"
            + "heir 9 days to colours\nheir 2 days to lilac\nunder 30 to colours\nunder 1 to grey\n"
            + "wedding ends crape\nwedding ends lilac\nmay dine from black\n" + "may wed from crape\n".repeat(40)
            + "may wed from colours", 1);
        h.person(10, -1, -1, -9000);
        h.person(0, 0, -1, -5000);
        h.person(10, -1, -1, -9000);
        h.death(0, 0);
        h.go(4);
        h.wed(1, 2, 4);
        h.person(0, -1, 1, 2);
        Check.due("by the last heir", h.depth(1, 2, 4), 1);
        Check.due("by the last heir", h.depth(1, 3, 4), 1);
        Check.due("its days are over", h.depth(1, 4, 4), 3);
        Check.due("by the last wedding", h.last(1, 0), 59);
        Check.due("by the last under", h.depth(1, 5, 4), 3);
        Check.no("by the last may call", h.may(1, 0, 5, 4));
        Check.yes("by the last may dine", h.may(1, 1, 5, 4));
        Check.no("by the last may wed", h.may(1, 3, 5, 4));
        Check.yes("by the last may call", h.may(1, 0, 3, 4));
    }

    // ---- Promises 31 and 32: write and out ----

    /** "its TOKENS with one blank between, but none ahead of , ; and :, and O in the order men half, wait, firm, news" */
    private static void writtenRules() {
        String longest = "for daughter of daughter of daughter of daughter: crape 999 months, black 999 months, "
            + "grey 999 months, lilac 999 months; men half; wait; firm; news";
        MourningHouse h = Check.under(longest, 1);
        writes(h, 0, 0, longest);
        String[] options = {"men half", "wait", "firm", "news"};
        for (int chosen = 0; chosen < 16; chosen++) {
            StringBuilder told = new StringBuilder("for  son  :grey  12   days");
            StringBuilder want = new StringBuilder("for son: grey 12 days");
            for (int i = 0; i < 4; i++) {
                told.append((chosen >> 3 - i & 1) == 1 ? ";" + options[3 - i] : "");
                want.append((chosen >> i & 1) == 1 ? "; " + options[i] : "");
            }
            writes(Check.under(told + "   # end", 1), 0, 0, want.toString());
        }
        for (String w : KIN) {
            writes(Check.under("for " + w + " of " + w + ":lilac 1 years", 1), 0, 0, "for " + w + " of " + w + ": lilac 1 years");
        }
        for (int number : new int[] {1, 9, 10, 11, 99, 100, 101, 110, 999}) {
            writes(Check.under("for son: black " + number + " weeks", 1), 0, 0, "for son: black " + number + " weeks");
        }
    }

    /** "Byte i of OUT; NONE if there is none such"; of write: "NONE if there is none such" */
    private static void outBytes() {
        MourningHouse h = Check.under("for daughter: black 100 months\nfor son: grey 1 days", 2);
        Check.due("nothing written", h.out(0), -1);
        Check.due("write", h.write(0, 0), 30);
        Check.due("the last byte", h.out(29), 's');
        Check.due("behind it", h.out(30), -1);
        // A shorter one leaves nothing of the longer one.
        Check.due("write", h.write(0, 1), 20);
        Check.due("the last byte", h.out(19), 's');
        Check.due("behind it", h.out(20), -1);
        Check.due("behind it", h.out(29), -1);
        Check.due("ahead", h.out(-1), -1);
        Check.due("ahead", h.out(LEAST), -1);
        Check.due("behind", h.out(MOST), -1);
        int[][] none = {{0, 2}, {0, -1}, {0, LEAST}, {0, MOST}, {1, 0}, {-1, 0}, {LEAST, 0}, {MOST, 0}};
        for (int[] w : none) {
            Check.due("write(" + w[0] + ", " + w[1] + ")", h.write(w[0], w[1]), -1);
            Check.due("OUT stays", h.out(19), 's');
            Check.due("OUT stays", h.out(20), -1);
        }
        Check.due("a law without rules", h.take(), 0);
        Check.due("no rule of it", h.write(1, 0), -1);
        Check.due("the first law's", h.write(0, 0), 30);
    }

    // ---- Promise 33: quarrel ----

    /** "The i-th QUARREL of a LAW (by the first RULE, then the other one): RULE a * 100 + RULE b; NONE if there is none such." */
    private static void quarrelsNumbered() {
        StringBuilder text = new StringBuilder();
        for (int i = 1; i <= 30; i++) {
            text.append("for son: grey ").append(i).append(" days\n");
        }
        int i = 0;
        MourningHouse h = Check.under(text.toString(), 30);
        for (int a = 0; a < 30; a++) {
            for (int b = a + 1; b < 30; b++) {
                Check.due("quarrel " + i, h.quarrel(0, i), a * 100 + b);
                i++;
            }
        }
        Check.due("the 436th", h.quarrel(0, 435), -1);
        for (int none : new int[] {-1, 436, LEAST, MOST}) {
            Check.due("quarrel(0, " + none + ")", h.quarrel(0, none), -1);
        }
        for (int none : new int[] {-1, 1, 6, LEAST, MOST}) {
            Check.due("quarrel(" + none + ", 0)", h.quarrel(none, 0), -1);
        }
        Check.due("take", Check.take(h, "for son: grey 1 days"), 1);
        Check.due("of one rule", h.quarrel(1, 0), -1);
        Check.due("take", Check.take(h, ""), 0);
        Check.due("of none", h.quarrel(2, 0), -1);
    }

    private static void quarrel(String one, String other, boolean due) {
        MourningHouse h = Check.under(one + "\n" + other, 2);
        Check.due("quarrel of " + one + " and " + other, h.quarrel(0, 0), due ? 1 : -1);
        Check.due("no other one", h.quarrel(0, 1), -1);
    }

    /** "two RULES of one LAW with the same W in the same order, that aren't written alike" */
    private static void quarrelsByWrittenLines() {
        String rule = "for son of wife: crape 1 days, black 2 weeks, grey 3 months, lilac 4 years";
        quarrel(rule, rule, false);
        quarrel(rule, rule.replace(" ", "   ") + "  # x", false);
        quarrel(rule + "; wait; news", rule + "; news; wait", false);
        for (String[] change : new String[][] {{"crape 1", "crape 2"}, {"1 days", "1 weeks"}, {"black 2", "black 3"},
            {"2 weeks", "2 months"}, {"grey 3", "grey 4"}, {"3 months", "3 years"}, {"lilac 4", "lilac 5"},
            {"4 years", "4 days"}, {", lilac 4 years", ""}, {"crape 1 days, ", ""}, {"black 2 weeks, ", ""}}) {
            quarrel(rule, rule.replace(change[0], change[1]), true);
            quarrel(rule.replace(change[0], change[1]), rule, true);
        }
        for (String option : new String[] {"men half", "wait", "firm", "news"}) {
            quarrel(rule, rule + "; " + option, true);
            quarrel(rule + "; " + option, rule + "; " + option, false);
        }
        quarrel(rule, "for wife of son: crape 1 days", false);
        quarrel(rule, "for son: crape 1 days", false);
        quarrel(rule, "for wife: crape 1 days", false);
        quarrel(rule, "for son of wife of son: crape 1 days", false);
        quarrel("for son of wife of son of son: grey 1 days", "for son of wife of son of wife: lilac 1 days", false);
        quarrel("for son of wife of son of son: grey 1 days", "for son of wife of son of son: lilac 1 days", true);
        quarrel("for son: black 7 days", "for son: grey 7 days", true);
    }
}
