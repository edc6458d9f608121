import java.util.ArrayList;
import java.util.List;
import java.util.function.Supplier;

/** What the tests by hand share. It stands apart from them, as .ci/run starts each file beside them as a test. */
abstract class Check {
    /** One more than can be taken back, so that one too many would be seen. */
    private static final int STEPS_LOOKED_AT = 31;

    static int wrong = 0;
    static int asked = 0;
    /** 0: the Terms. */
    static int promise = 0;
    static String sentence = "";

    interface Call {
        long on(CakeCalendar x);
    }

    /** The document's words that the next checks are about. */
    static void says(int of, String words) {
        promise = of;
        sentence = words;
    }

    static void due(String call, long got, long want) {
        asked++;
        if (got != want) {
            wrong++;
            System.out.println((promise == 0 ? "terms" : "promise " + promise) + (sentence.isEmpty() ? "" : " \"" + sentence + "\"") + ": "
                + call + " answered " + got + ", due is " + want);
        }
    }

    static void due(String call, boolean got, boolean want) {
        due(call, bit(got), bit(want));
    }

    static long bit(boolean b) {
        return b ? 1 : 0;
    }

    static void finish(String name) {
        System.out.println(name + ": " + (wrong == 0 ? "all " + asked + " answers are as due" : wrong + " of " + asked + " answers are not as due"));
        if (wrong != 0) {
            System.exit(1);
        }
    }

    /** Puts a text on the tape in place of what is there. */
    static void tape(CakeCalendar x, String text) {
        x.end(0);
        for (int i = 0; i < text.length(); i += 20) {
            int[] w = new int[5];
            for (int k = 0; k < 20; k++) {
                int b = i + k < text.length() ? text.charAt(i + k) : 0;
                w[k / 4] = w[k / 4] << 8 | b;
            }
            x.feed(w[0], w[1], w[2], w[3], w[4]);
        }
        x.end(text.length());
    }

    static int told(CakeCalendar x, String text) {
        tape(x, text);
        return x.text();
    }

    static CakeCalendar ruled(String text) {
        CakeCalendar x = new CakeCalendar();
        due("text() of " + text, told(x, text), 0);
        due("by(0)", x.by(0), true);
        return x;
    }

    /** Tells SISTERS of these APPETITES and seats them all. */
    static CakeCalendar sitting(CakeCalendar x, int seat, int... appetites) {
        for (int a : appetites) {
            x.seat(x.sister(a), seat);
        }
        return x;
    }

    static void faulty(String text, int fault, int place) {
        CakeCalendar x = new CakeCalendar();
        due("text() of " + text, told(x, text), fault == 0 ? 0 : CakeCalendar.NONE);
        due("fault(0) of " + text, x.fault(0), fault);
        due("fault(1) of " + text, x.fault(1), place);
        due("TEXTS with " + text, x.about(4), fault == 0 ? 1 : 0);
    }

    static void sound(String text) {
        faulty(text, 0, CakeCalendar.NONE);
    }

    /** What a SUM is worth, seen through a comparison, as slices are held in 1 .. 60. */
    static void worth(String sum, int value) {
        String told = value < 0 ? "0-" + -value / 1000 + "*1000-" + -value % 1000 : value / 1000 + "*1000+" + value % 1000;
        CakeCalendar x = ruled("slices if (" + sum + ")=" + told + "?7:8 end;");
        due(sum + " is " + value, x.slices(0, 0), 7);
    }

    /** The first ones beyond a range on each side, and the farthest. */
    static int[] outside(int low, int high) {
        return new int[] {Integer.MIN_VALUE, low - 1, high + 1, Integer.MAX_VALUE};
    }

    /** Lets DAWNS go by until that DAWN. */
    static void passTo(CakeCalendar x, int dawn) {
        for (int i = 0; i < 11 && x.about(1) < dawn; i++) {
            x.pass(Math.min(99, dawn - x.about(1)));
        }
        due("DAWN", x.about(1), dawn);
    }

    /** A state in which something of each kind stands; the image and the latest FAULT too. */
    static CakeCalendar busy() {
        CakeCalendar x = new CakeCalendar();
        x.sister(4);
        x.sister(0);
        x.seat(0, 1);
        told(x, "slices 9+day;eats appetite+1;seat 2 at 0;pass 1;");
        x.image();
        x.sister(9);
        x.mice(3);
        x.seed(1234);
        told(x, "slices 5;hide 1 at 1;pass 2;");
        x.by(0);
        told(x, "pass 0;");
        x.hide(0, 5);
        x.give(0, 2);
        x.hide(1, 1);
        x.pass(3);
        x.seat(1, 0);
        x.seen(9);
        x.seen(8);
        tape(x, "pass 2;slices day+3;");
        return x;
    }

    /** A state in which there are as many of all as there can be. */
    static CakeCalendar full() {
        CakeCalendar x = new CakeCalendar();
        for (int i = 0; i < 6; i++) {
            x.sister(i + 1);
            x.seat(i, i % 3 == 2 ? 0 : i % 3);
        }
        for (int i = 0; i < 4; i++) {
            told(x, "slices " + (20 + i) + ";pass 1;");
        }
        x.by(3);
        x.mice(10);
        x.pass(30);
        for (int i = 0; i < 8; i++) {
            x.seen(10 - i);
        }
        for (int i = 0; i < 15; i++) {
            x.feed(0x70617373, 0x20393920, 0x20202020, 0x2020203b, 0x20202020);
        }
        return x;
    }

    /** What can be seen without changing anything. */
    static List<Long> looks(CakeCalendar x) {
        List<Long> all = new ArrayList<>();
        for (int i = 0; i < 9; i++) {
            all.add((long) x.about(i));
        }
        all.add((long) x.fault(0));
        all.add((long) x.fault(1));
        for (int s = 0; s < 6; s++) {
            for (int i = 0; i < 3; i++) {
                all.add((long) x.sisterOf(s, i));
            }
        }
        for (int t = 0; t < 2; t++) {
            for (int i = 0; i < 4; i++) {
                all.add((long) x.of(t, i));
            }
            all.add((long) x.slices(t, 3));
            all.add((long) x.comes(t, x.of(t, 0) + 2, t == 0));
            all.add(x.odds(t, x.of(t, 0) + 1, 5, t));
            all.add((long) x.flour(t, 0, 5));
            all.add((long) x.saint(t, x.of(t, 0) + 1, 3, t - 1));
            all.add((long) x.who(t, 3, t - 1));
        }
        all.add((long) x.apart(20));
        return all;
    }

    /** What can be seen by going on: the tape's bytes, SEEN, the STEPS one by one, and the image. */
    static List<Long> tail(CakeCalendar x) {
        List<Long> all = new ArrayList<>();
        all.add((long) x.pass(1));
        for (int i = 0; i < STEPS_LOOKED_AT; i++) {
            all.add((long) x.about(3));
            for (int t = 0; t < 2; t++) {
                all.add((long) x.of(t, 0));
                all.add((long) x.of(t, 1));
                all.add((long) x.of(t, 3));
            }
            int steps = x.undo();
            all.add((long) steps);
            if (steps <= 0) {
                break;
            }
        }
        all.add((long) x.text());
        all.add((long) x.fault(0));
        all.add((long) x.fault(1));
        all.add((long) x.slices(1, 7));
        all.add((long) x.back());
        all.add((long) x.text());
        all.add((long) x.played(x.about(4) - 1));
        all.addAll(looks(x));
        return all;
    }

    /** A call that is answered so and changes nothing, by all that can be seen, at once and by going on. */
    static void quiet(Supplier<CakeCalendar> maker, String call, Call c, long want) {
        CakeCalendar x = maker.get();
        List<Long> ahead = looks(x);
        due(call, c.on(x), want);
        due(call + " changes nothing that is seen at once", looks(x).equals(ahead), true);
        due(call + " changes nothing that is seen by going on", tail(x).equals(tail(maker.get())), true);
    }

    /** A call that is refused however all stands. */
    static void refused(String call, Call c, long want) {
        quiet(CakeCalendar::new, call + " of a new object", c, want);
        quiet(Check::busy, call, c, want);
        quiet(Check::full, call + " where all is full", c, want);
    }
}
