import java.util.ArrayList;
import java.util.List;

/**
 * Whether a refused call leaves everything as it was: of two houses that are built alike one is asked
 * for it, and then all that can be seen of both must be alike. For each view (what may be seen within
 * the calls of one object) two houses are built anew, as some views use up what they look at.
 */
final class Refusal {
    /** What is done to a new house. */
    interface Work {
        void on(MourningHouse h);
    }

    /** A call; a boolean counts 1 or 0. */
    interface Call {
        long on(MourningHouse h);
    }

    private interface View {
        void of(MourningHouse h, List<Integer> seen);
    }

    private static final View[] VIEWS = {Refusal::counts, Refusal::people, Refusal::deeds, Refusal::dresses,
        Refusal::mourning, Refusal::marriages, Refusal::text, Refusal::laws, Refusal::plans};

    private Refusal() {
    }

    static void due(String what, Work built, Call call, long want) {
        for (int i = 0; i < VIEWS.length; i++) {
            MourningHouse asked = new MourningHouse();
            MourningHouse left = new MourningHouse();
            built.on(asked);
            built.on(left);
            Check.due(what, call.on(asked), want);
            List<Integer> seen = new ArrayList<>();
            List<Integer> wanted = new ArrayList<>();
            VIEWS[i].of(asked, seen);
            VIEWS[i].of(left, wanted);
            Check.yes(what + " changes nothing of view " + i, seen.equals(wanted));
        }
    }

    static void none(String what, Work built, Call call) {
        due(what, built, call, -1);
    }

    static void no(String what, Work built, Call call) {
        due(what, built, call, 0);
    }

    static void noAnswer(String what, Work built, Call call) {
        due(what, built, call, Check.NO_ANSWER);
    }

    static int bit(boolean answer) {
        return answer ? 1 : 0;
    }

    // ---- the views: each makes some 300 calls at most, as an object has but 512 ----

    private static void counts(MourningHouse h, List<Integer> seen) {
        for (int what = 0; what < 15; what++) {
            seen.add(h.count(what));
        }
        for (int what = 0; what < 3; what++) {
            seen.add(h.fault(what));
        }
        for (int i = 0; i < 100; i++) {
            seen.add(h.out(i));
        }
    }

    private static void people(MourningHouse h, List<Integer> seen) {
        for (int person = 0; person < 41; person++) {
            for (int what = 0; what < 7; what++) {
                seen.add(h.told(person, what));
            }
        }
    }

    private static void deeds(MourningHouse h, List<Integer> seen) {
        int deeds = h.count(5);
        for (int deed = 0; deed <= deeds; deed++) {
            for (int what = deeds > 50 ? 2 : 0; what < 4; what++) {
                seen.add(h.stands(deed, what));
            }
        }
    }

    private static void dresses(MourningHouse h, List<Integer> seen) {
        worn(h, seen);
        // The row of tasks shows by the days on which they are done.
        h.go(1);
        seen.add(h.count(7));
        h.hands(1);
        for (int i = 0; i < 30; i++) {
            h.go(i % 3 + 1);
            seen.add(h.count(7));
        }
        worn(h, seen);
    }

    private static void worn(MourningHouse h, List<Integer> seen) {
        for (int dress = 0; dress < 41; dress++) {
            for (int what = 0; what < 3; what++) {
                seen.add(h.worn(dress, what));
            }
        }
    }

    private static void mourning(MourningHouse h, List<Integer> seen) {
        int now = h.count(0);
        for (int a = 0; a < 8; a++) {
            for (int day = now - 4; day < now + 16; day++) {
                seen.add(h.depth(a, day, now));
            }
            for (int d = 0; d < 8; d++) {
                seen.add(h.mourns(a, d, now));
                seen.add(h.last(a, d));
            }
            seen.add(h.edge(a, now));
        }
    }

    private static void marriages(MourningHouse h, List<Integer> seen) {
        int now = h.count(0);
        for (int rule = 0; rule < 3; rule++) {
            for (int a = 0; a < 8; a++) {
                for (int d = 0; d < 8; d++) {
                    seen.add(bit(h.kin(rule, a, d, now)));
                }
            }
        }
    }

    private static void text(MourningHouse h, List<Integer> seen) {
        // A byte that begins no token tells how many tokens stand ahead of it.
        int size = h.count(9);
        seen.add(h.feed(0x3f3f3f3f, 0x3f3f3f3f, 0x3f3f3f3f, 0x3f3f3f3f, 0x3f3f3f3f));
        seen.add(h.take());
        for (int what = 0; what < 3; what++) {
            seen.add(h.fault(what));
        }
        seen.add(h.count(2));
        seen.add(h.count(9));
        seen.add(size);
    }

    private static void laws(MourningHouse h, List<Integer> seen) {
        // The text first: it may become a law.
        seen.add(h.take());
        for (int law = 0; law < 7; law++) {
            for (int rule = 0; rule < 3; rule++) {
                int bytes = h.write(law, rule);
                seen.add(bytes);
                for (int i = 8; i < Math.min(bytes, 20); i++) {
                    seen.add(h.out(i));
                }
            }
            seen.add(h.write(law, 29));
            seen.add(h.quarrel(law, 0));
        }
    }

    private static void plans(MourningHouse h, List<Integer> seen) {
        int now = h.count(0);
        for (int who = 0; who < 31; who++) {
            seen.add(h.plan(1 << who, now + 4, 0));
            seen.add(h.planned(1 << who, now + 9, 0));
        }
        for (int act = 0; act < 4; act++) {
            seen.add(h.best(act, now, now + 30, 0));
            seen.add(h.best(act, now, now + 30, 1));
            for (int a = 0; a < 8; a++) {
                seen.add(h.first(a, act, now));
                seen.add(bit(h.may(a, act, now, now)));
            }
        }
    }
}
