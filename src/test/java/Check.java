/** What the tests share: telling what is due, and feeding texts. */
final class Check {
    static final int NO_ANSWER = Integer.MIN_VALUE;
    private static final int LONGEST_SECONDS = 300;
    private static int wrong = 0;
    private static int made = 0;
    private static boolean watched = false;

    static {
        watch();
    }

    private Check() {
    }

    /** A call that fails to end fails the test, too. */
    static synchronized void watch() {
        if (watched) {
            return;
        }
        watched = true;
        Thread watch = new Thread(() -> {
            try {
                Thread.sleep(LONGEST_SECONDS * 1000L);
            } catch (InterruptedException e) {
                return;
            }
            System.out.println("not ended within " + LONGEST_SECONDS + " seconds");
            Runtime.getRuntime().halt(1);
        });
        watch.setDaemon(true);
        watch.start();
    }

    static void due(String call, long got, long want) {
        made++;
        if (got != want) {
            wrong++;
            System.out.println(call + " answered " + got + ", due is " + want);
        }
    }

    static void yes(String call, boolean got) {
        due(call, got ? 1 : 0, 1);
    }

    static void no(String call, boolean got) {
        due(call, got ? 1 : 0, 0);
    }

    /** Puts a text (of bytes, one a character) behind the one that is there. */
    static void feed(MourningHouse house, String text) {
        int size = house.count(9);
        for (int at = 0; at < text.length(); at += 20) {
            int[] five = new int[5];
            for (int i = 0; i < 20; i++) {
                five[i / 4] = five[i / 4] << 8 | (at + i < text.length() ? text.charAt(at + i) : 'X');
            }
            due("feed", house.feed(five[0], five[1], five[2], five[3], five[4]), size + at + 20);
        }
        yes("end", house.end(size + text.length()));
    }

    static int take(MourningHouse house, String text) {
        feed(house, text);
        return house.take();
    }

    /** A new house under one law. */
    static MourningHouse under(String text, int rules) {
        MourningHouse house = new MourningHouse();
        due("take", take(house, text), rules);
        return house;
    }

    static void done() {
        System.out.println(wrong == 0 ? made + " answers are as due" : wrong + " of " + made + " answers are not as due");
        if (wrong != 0) {
            System.exit(1);
        }
    }
}
