import java.util.List;

/** Each sentence of the promises 1 to 28 that names an edge: the last that is allowed, the first beyond, and what a refused call leaves. */
public final class EdgePromiseTest extends Check {
    public static void main(String[] args) {
        newObject();
        sisterOthers();
        sisterSix();
        mice();
        seed();
        feed();
        feedBeyond300();
        end();
        textEmptiesTheTape();
        textWithFault();
        textFour();
        fault();
        faultAheadOfAny();
        by();
        slices();
        seatOthers();
        seatHers();
        hide();
        hideNotSoMany();
        give();
        giveNotSoMany();
        pass();
        passBeyond999();
        passOneStepEach();
        played();
        playedOthers();
        undo();
        of();
        sisterOf();
        sheFasts();
        comes();
        odds();
        apart();
        flour();
        saint();
        seen();
        seenEight();
        who();
        image();
        back();
        about();
        finish("edges of the promises");
    }

    private static void newObject() {
        says(1, "No SISTERS; THE IMAGE is this.");
        CakeCalendar x = new CakeCalendar();
        due("SISTERS", x.about(0), 0);
        due("SISTER 0", x.sisterOf(0, 0), -1);
        due("who sits at 0", x.of(0, 3), 0);
        due("who sits at 1", x.of(1, 3), 0);
        CakeCalendar y = busy();
        CakeCalendar z = full();
        due("back() of a full one", z.back(), 0);
        z.end(0);
        due("a full one whose image was never made is new again", newLooks(z), newLooks(new CakeCalendar()));
        due("nothing can be taken back", z.undo(), -1);
        due("no TEXT", z.by(0), false);
        due("no TEXT to be played", z.played(0), -2);
        due("SISTER 0 again", z.sister(3), 0);
        due("her SEAT", z.sisterOf(0, 1), 2);
        due("back() of one with an image goes to that", y.back() == 0 && y.about(0) == 2, true);
    }

    private static void due(String call, List<Long> got, List<Long> want) {
        due(call, got.equals(want), true);
    }

    /** All looks but the latest FAULT, which an image leaves out. */
    private static List<Long> newLooks(CakeCalendar x) {
        List<Long> all = looks(x);
        all.set(9, 0L);
        all.set(10, 0L);
        return all;
    }

    private static void sisterOthers() {
        says(2, "A SISTER: her number. NONE for others");
        for (int a : outside(0, 9)) {
            refused("sister(" + a + ")", x -> x.sister(a), -1);
        }
        CakeCalendar x = new CakeCalendar();
        due("sister(0)", x.sister(0), 0);
        due("sister(9)", x.sister(9), 1);
        due("APPETITE 0", x.sisterOf(0, 0), 0);
        due("APPETITE 9", x.sisterOf(1, 0), 9);
        x.sister(10);
        due("a refused one takes no number", x.sister(5), 2);
    }

    private static void sisterSix() {
        says(2, "or if there are 6.");
        CakeCalendar x = new CakeCalendar();
        for (int i = 0; i < 5; i++) {
            x.sister(i);
        }
        due("the 6th", x.sister(8), 5);
        due("the 7th", x.sister(8), -1);
        due("SISTERS", x.about(0), 6);
        due("the 6th stays", x.sisterOf(5, 0), 8);
        due("no 7th", x.sisterOf(6, 0), -1);
        quiet(Check::full, "sister(0) of 6", y -> y.sister(0), -1);
        quiet(Check::full, "sister(9) of 6", y -> y.sister(9), -1);
        x.back();
        due("behind back() there is room", x.sister(1), 0);
    }

    private static void mice() {
        says(3, "MICE: true. False for others.");
        for (int m : outside(0, 10)) {
            refused("mice(" + m + ")", x -> bit(x.mice(m)), 0);
        }
        CakeCalendar x = new CakeCalendar();
        for (int m = 10; m >= 0; m--) {
            due("mice(" + m + ")", x.mice(m), true);
            due("MICE", x.about(2), m);
        }
        due("the same again", x.mice(0), true);
    }

    private static void seed() {
        says(4, "X is SEED (0 .. 9999) * 3 + 11: true. False for others.");
        for (int s : outside(0, 9999)) {
            refused("seed(" + s + ")", x -> bit(x.seed(s)), 0);
        }
        CakeCalendar x = new CakeCalendar();
        due("seed(9999)", x.seed(9999), true);
        due("X", x.about(3), 30008);
        due("seed(0)", x.seed(0), true);
        due("X", x.about(3), 11);
        due("seed(1)", x.seed(1), true);
        due("X", x.about(3), 14);
    }

    private static void feed() {
        says(5, "Twenty bytes come behind the tape, the highest of a first: how many it has.");
        CakeCalendar x = new CakeCalendar();
        due("the first", x.feed(0x70617373, 0x20313b70, 0x61737320, 0x323b7061, 0x73732033), 20);
        due("the second", x.feed(0x3b202020, 0x20202020, 0x20202020, 0x20202020, 0x20202020), 40);
        due("text()", x.text(), 0);
        due("played(0)", x.played(0), -1);
        due("1 and 2 and 3", x.about(1), 6);
        // Bytes 128 to 255, the lowest of e among them, come as they are.
        CakeCalendar y = new CakeCalendar();
        y.feed(0x20202020, 0x20202020, 0x20202020, 0x20202020, 0x202020ff);
        due("text() with byte 255", y.text(), -1);
        due("FAULT", y.fault(0), 1);
        due("place", y.fault(1), 19);
        CakeCalendar z = new CakeCalendar();
        z.feed(0x80202020, 0x20202020, 0x20202020, 0x20202020, 0x20202020);
        due("text() with byte 128", z.text(), -1);
        due("place", z.fault(1), 0);
    }

    private static void feedBeyond300() {
        says(5, "NONE, and none come, if there would be more than 300.");
        quiet(Check::full, "feed at 300", x -> x.feed(0, 0, 0, 0, 0), -1);
        quiet(() -> cut(281), "feed at 281", x -> x.feed(0, 0, 0, 0, 0), -1);
        due("feed at 280", cut(280).feed(0, 0, 0, 0, 0), 300);
        due("feed at 279", cut(279).feed(0, 0, 0, 0, 0), 299);
        CakeCalendar x = cut(281);
        x.feed(0, 0, 0, 0, 0);
        due("bytes", x.about(8), 281);
        due("what was there is sound yet", x.text(), 0);
    }

    private static CakeCalendar cut(int n) {
        CakeCalendar x = new CakeCalendar();
        for (int i = 0; i < 15; i++) {
            x.feed(0x20202020, 0x20202020, 0x20202020, 0x20202020, 0x20202020);
        }
        due("end", x.end(n), n);
        return x;
    }

    private static void end() {
        says(6, "The tape has its first n bytes alone: n. NONE, and nothing is done, if it has not so many, or n is below 0.");
        quiet(CakeCalendar::new, "end(1) of none", x -> x.end(1), -1);
        quiet(Check::busy, "end(21) of 20", x -> x.end(21), -1);
        quiet(Check::full, "end(301) of 300", x -> x.end(301), -1);
        refused("end(-1)", x -> x.end(-1), -1);
        refused("end(min)", x -> x.end(Integer.MIN_VALUE), -1);
        refused("end(max)", x -> x.end(Integer.MAX_VALUE), -1);
        quiet(CakeCalendar::new, "end(0) of none", x -> x.end(0), 0);
        quiet(Check::busy, "end(20) of 20", x -> x.end(20), 20);
        quiet(Check::full, "end(300) of 300", x -> x.end(300), 300);
        CakeCalendar x = new CakeCalendar();
        x.feed(0x70617373, 0x20313b70, 0x61737320, 0x323b7061, 0x73732033);
        due("end(14)", x.end(14), 14);
        due("bytes", x.about(8), 14);
        due("what is cut off does not come again", x.end(15), -1);
        due("feed behind what is left", x.feed(0x20202020, 0x20202020, 0x20202020, 0x20202020, 0x20202020), 34);
        due("text()", x.text(), 0);
        x.played(0);
        due("pass 1 and pass 2", x.about(1), 3);
        x.feed(0, 0, 0, 0, 0);
        due("end(0)", x.end(0), 0);
        due("bytes", x.about(8), 0);
        due("an empty text", x.text(), 1);
    }

    private static void textEmptiesTheTape() {
        says(7, "The tape (empty then) is a TEXT: its number.");
        CakeCalendar x = new CakeCalendar();
        tape(x, "pass 1;");
        due("the first", x.text(), 0);
        due("bytes", x.about(8), 0);
        due("the empty tape", x.text(), 1);
        due("TEXTS", x.about(4), 2);
        due("feed starts anew", x.feed(0x20202020, 0x20202020, 0x20202020, 0x20202020, 0x20202020), 20);
        due("THE TEXT stays none", x.about(5), -1);
        due("nothing is played", x.about(1), 0);
    }

    private static void textWithFault() {
        says(7, "NONE: it has a FAULT");
        CakeCalendar x = busy();
        tape(x, "pass 100;");
        due("text()", x.text(), -1);
        due("TEXTS", x.about(4), 2);
        due("bytes", x.about(8), 0);
        due("no such TEXT", x.by(2), false);
        due("nor to be played", x.played(2), -2);
        due("the next has that number", told(x, "pass 99;"), 2);
        // A FAULT as the 5th is not found, as it is not read.
        CakeCalendar y = full();
        y.end(0);
        due("the 5th with a FAULT", told(y, "x"), -1);
        due("it was not read", y.fault(0), 0);
    }

    private static void textFour() {
        says(7, "or (the tape stays) there are 4.");
        quiet(Check::full, "text() as the 5th", x -> x.text(), -1);
        CakeCalendar x = new CakeCalendar();
        for (int i = 0; i < 4; i++) {
            due("text()", told(x, "slices " + (i + 1) + ";"), i);
        }
        tape(x, "slices 9;");
        due("the 5th", x.text(), -1);
        due("bytes", x.about(8), 9);
        due("TEXTS", x.about(4), 4);
        for (int i = 0; i < 4; i++) {
            x.by(i);
            due("TEXT " + i + " is as it was", x.slices(0, 0), i + 1);
        }
        x.back();
        due("with room again, the tape that stayed", x.text(), 0);
        x.by(0);
        due("slices", x.slices(0, 0), 9);
    }

    private static void fault() {
        says(8, "Of the latest text that was read: 0 its FAULT (0 without), 1 its place (NONE without).");
        CakeCalendar x = new CakeCalendar();
        told(x, "  pass 0;");
        due("its FAULT", x.fault(0), 2);
        due("its place", x.fault(1), 7);
        told(x, "pass 1;");
        due("0 without", x.fault(0), 0);
        due("NONE without", x.fault(1), -1);
        told(x, "x");
        due("its FAULT", x.fault(0), 1);
        due("a place of 0", x.fault(1), 0);
        tape(x, "slices");
        x.end(0);
        due("a tape that was not read", x.fault(1), 0);
        for (int what : outside(0, 1)) {
            refused("fault(" + what + ")", y -> y.fault(what), -1);
        }
    }

    private static void faultAheadOfAny() {
        says(8, "NONE for others, and ahead of any.");
        CakeCalendar x = new CakeCalendar();
        tape(x, "x");
        due("fault(0)", x.fault(0), -1);
        due("fault(1)", x.fault(1), -1);
        x.text();
        due("fault(0)", x.fault(0), 1);
        x.back();
        due("the latest FAULT is not in the image", x.fault(0), 1);
        due("nor its place", x.fault(1), 0);
    }

    private static void by() {
        says(9, "THE TEXT (NONE: none): true. False for others.");
        for (int t : outside(-1, 3)) {
            refused("by(" + t + ")", x -> bit(x.by(t)), 0);
        }
        quiet(CakeCalendar::new, "by(0) of none", x -> bit(x.by(0)), 0);
        quiet(Check::busy, "by(2) of two", x -> bit(x.by(2)), 0);
        quiet(CakeCalendar::new, "by(NONE) of none", x -> bit(x.by(-1)), 1);
        quiet(Check::full, "by(3) again", x -> bit(x.by(3)), 1);
        CakeCalendar x = busy();
        due("by(1)", x.by(1), true);
        due("THE TEXT", x.about(5), 1);
        due("SLICES", x.slices(0, 3), 5);
        due("by(NONE)", x.by(-1), true);
        due("THE TEXT", x.about(5), -1);
        due("SLICES", x.slices(0, 3), 12);
    }

    private static void slices() {
        says(10, "SLICES of a DAY (0 .. 999) at a TABLE (at this DAWN). NONE for others.");
        for (int d : outside(0, 999)) {
            refused("slices(1, " + d + ")", x -> x.slices(1, d), -1);
        }
        for (int t : outside(0, 1)) {
            refused("slices(" + t + ", 0)", x -> x.slices(t, 0), -1);
        }
        CakeCalendar x = ruled("slices if day=999?table+40:if day=0?table+50+dawn:7 end end;");
        due("DAY 0", x.slices(0, 0), 50);
        due("DAY 1", x.slices(0, 1), 7);
        due("DAY 998", x.slices(1, 998), 7);
        due("DAY 999", x.slices(1, 999), 41);
        x.pass(1);
        due("at this DAWN", x.slices(1, 0), 52);
    }

    private static void seatOthers() {
        says(11, "SEATED: true. False for others");
        for (int s : outside(0, 5)) {
            refused("seat(" + s + ", 0)", x -> bit(x.seat(s, 0)), 0);
        }
        for (int seat : outside(0, 2)) {
            refused("seat(0, " + seat + ")", x -> bit(x.seat(0, seat)), 0);
        }
        quiet(CakeCalendar::new, "seat(0, 0) of none", x -> bit(x.seat(0, 0)), 0);
        quiet(Check::busy, "seat(3, 1) of three", x -> bit(x.seat(3, 1)), 0);
        CakeCalendar x = full();
        due("seat(5, 2)", x.seat(5, 2), true);
        due("seat(0, 1)", x.seat(0, 1), true);
        due("seat(0, 0)", x.seat(0, 0), true);
        due("SEAT", x.sisterOf(5, 1), 2);
    }

    private static void seatHers() {
        says(11, "and if it is her SEAT.");
        for (int seat = 0; seat < 3; seat++) {
            int s = seat;
            quiet(() -> seatedAt(s), "her SEAT " + seat, x -> bit(x.seat(0, s)), 0);
            CakeCalendar x = seatedAt(seat);
            due("another one", x.seat(0, (seat + 1) % 3), true);
            due("back again", x.seat(0, seat), true);
        }
    }

    private static CakeCalendar seatedAt(int seat) {
        CakeCalendar x = new CakeCalendar();
        x.sister(2);
        x.seat(0, seat);
        return x;
    }

    private static void hide() {
        says(12, "HIDDEN k: what is LEFT. NONE for others");
        for (int k : outside(1, 9)) {
            refused("hide(0, " + k + ")", x -> x.hide(0, k), -1);
        }
        for (int t : outside(0, 1)) {
            refused("hide(" + t + ", 1)", x -> x.hide(t, 1), -1);
        }
        CakeCalendar x = new CakeCalendar();
        due("hide(0, 1)", x.hide(0, 1), 11);
        due("hide(1, 9)", x.hide(1, 9), 3);
        due("HIDDEN", x.of(0, 2), 1);
        due("HIDDEN", x.of(1, 2), 9);
        due("STEPS", x.about(6), 2);
    }

    private static void hideNotSoMany() {
        says(12, "or if there are not so many.");
        CakeCalendar x = hiddenNine();
        due("all 3 that are LEFT", x.hide(1, 3), 0);
        quiet(EdgePromiseTest::hiddenNine, "4 of 3", y -> y.hide(1, 4), -1);
        quiet(EdgePromiseTest::hiddenNine, "9 of 3", y -> y.hide(1, 9), -1);
        quiet(EdgePromiseTest::hiddenAll, "1 of 0", y -> y.hide(1, 1), -1);
        due("the other TABLE has its own", hiddenAll().hide(0, 9), 3);
    }

    private static CakeCalendar hiddenNine() {
        CakeCalendar x = new CakeCalendar();
        x.hide(1, 9);
        return x;
    }

    private static CakeCalendar hiddenAll() {
        CakeCalendar x = hiddenNine();
        x.hide(1, 3);
        return x;
    }

    private static void give() {
        says(13, "GIVEN BACK k: what is LEFT. NONE for others");
        for (int k : outside(1, 9)) {
            refused("give(0, " + k + ")", x -> x.give(0, k), -1);
            quiet(EdgePromiseTest::hiddenAll, "give(1, " + k + ") of 12", x -> x.give(1, k), -1);
        }
        for (int t : outside(0, 1)) {
            refused("give(" + t + ", 1)", x -> x.give(t, 1), -1);
        }
        CakeCalendar x = hiddenAll();
        due("give(1, 1)", x.give(1, 1), 1);
        due("give(1, 9)", x.give(1, 9), 10);
        due("HIDDEN", x.of(1, 2), 2);
        due("STEPS", x.about(6), 4);
    }

    private static void giveNotSoMany() {
        says(13, "or if there are not so many HIDDEN.");
        due("all 9", hiddenNine().give(1, 9), 12);
        quiet(CakeCalendar::new, "1 of 0", x -> x.give(0, 1), -1);
        quiet(EdgePromiseTest::hiddenNine, "1 of 0 at the other TABLE", x -> x.give(0, 1), -1);
        quiet(EdgePromiseTest::hiddenThree, "4 of 3", x -> x.give(0, 4), -1);
        due("3 of 3", hiddenThree().give(0, 3), 12);
    }

    private static CakeCalendar hiddenThree() {
        CakeCalendar x = new CakeCalendar();
        x.hide(0, 3);
        return x;
    }

    private static void pass() {
        says(14, "DAWNS go by (1 .. 99), one STEP each: slices that were eaten, by all, mice too. NONE for others");
        for (int n : outside(1, 99)) {
            refused("pass(" + n + ")", x -> x.pass(n), -1);
        }
        CakeCalendar x = sitting(new CakeCalendar(), 1, 1);
        due("pass(1)", x.pass(1), 1);
        due("DAWN", x.about(1), 1);
        due("pass(99)", x.pass(99), 99);
        due("DAWN", x.about(1), 100);
        CakeCalendar y = sitting(sitting(new CakeCalendar(), 0, 2), 1, 3);
        y.mice(10);
        due("by all, mice too", y.pass(2), 2 * (2 + 3 + 1 + 1));
    }

    private static void passBeyond999() {
        says(14, "or beyond 999.");
        CakeCalendar x = new CakeCalendar();
        passTo(x, 900);
        quiet(() -> atDawn(901), "pass(99) at 901", y -> y.pass(99), -1);
        due("pass(99) at 900", x.pass(99), 0);
        due("DAWN", x.about(1), 999);
        quiet(() -> atDawn(999), "pass(1) at 999", y -> y.pass(1), -1);
        quiet(() -> atDawn(998), "pass(2) at 998", y -> y.pass(2), -1);
        CakeCalendar z = atDawn(998);
        due("pass(1) at 998", z.pass(1), 0);
        due("STEPS", z.about(6), 30);
        due("taken back", z.undo(), 29);
        due("and once more", z.pass(1), 0);
        due("DAWN", z.about(1), 999);
    }

    private static CakeCalendar atDawn(int dawn) {
        CakeCalendar x = new CakeCalendar();
        passTo(x, dawn);
        return x;
    }

    private static void passOneStepEach() {
        says(14, "DAWNS go by (1 .. 99), one STEP each");
        CakeCalendar x = new CakeCalendar();
        x.pass(1);
        due("one", x.about(6), 1);
        x.pass(28);
        due("29", x.about(6), 29);
        x.pass(1);
        due("30", x.about(6), 30);
        x.pass(99);
        due("30 of 129", x.about(6), 30);
        x.undo();
        due("just one DAWN is taken back", x.about(1), 128);
    }

    private static void played() {
        says(15, "PLAYED by a TEXT: NONE: all is done; else the number of the CLAUSE that can't be.");
        CakeCalendar x = new CakeCalendar();
        told(x, "hide 9 at 0;hide 3 at 0;hide 1 at 0;pass 5;");
        told(x, "");
        told(x, "slices 3;eats 2;");
        due("the third can't be", x.played(0), 2);
        due("what was done stays", x.of(0, 2), 12);
        due("nothing behind it is done", x.about(1), 0);
        due("the first can't be", x.played(0), 0);
        due("STEPS", x.about(6), 2);
        quiet(Check::full, "played(4)", y -> y.played(4), -2);
        due("no CLAUSE", x.played(1), -1);
        due("laws alone", x.played(2), -1);
        due("they don't rule by that", x.about(5), -1);
        due("STEPS", x.about(6), 2);
    }

    private static void playedOthers() {
        says(15, "-2 for others.");
        for (int t : outside(0, 3)) {
            refused("played(" + t + ")", x -> x.played(t), -2);
        }
        refused("played(NONE)", x -> x.played(-1), -2);
        quiet(CakeCalendar::new, "played(0) of none", x -> x.played(0), -2);
        quiet(Check::busy, "played(2) of two", x -> x.played(2), -2);
        due("played(3)", full().played(3), -1);
        due("played(0)", full().played(0), -1);
    }

    private static void undo() {
        says(16, "The latest STEP is taken back: how many can be yet. NONE: there is none.");
        quiet(CakeCalendar::new, "undo() of none", x -> x.undo(), -1);
        CakeCalendar x = new CakeCalendar();
        x.hide(0, 1);
        due("the only one", x.undo(), 0);
        due("LEFT", x.of(0, 1), 12);
        quiet(() -> undone(), "undo() behind the last", y -> y.undo(), -1);
        CakeCalendar y = full();
        due("30", y.about(6), 30);
        for (int i = 29; i >= 0; i--) {
            due("undo()", y.undo(), i);
        }
        due("the 31st", y.undo(), -1);
        due("DAWN", y.about(1), 0);
        due("the SEATS told ahead of the 30 stay", y.of(0, 3), 0b101101);
    }

    private static CakeCalendar undone() {
        CakeCalendar x = busy();
        for (int i = x.about(6); i > 0; i--) {
            x.undo();
        }
        return x;
    }

    private static void of() {
        says(17, "Of a TABLE: 0 DAY, 1 LEFT, 2 HIDDEN, 3 who sits there (bits). NONE for others.");
        for (int t : outside(0, 1)) {
            refused("of(" + t + ", 0)", x -> x.of(t, 0), -1);
        }
        for (int what : outside(0, 3)) {
            refused("of(0, " + what + ")", x -> x.of(0, what), -1);
            refused("of(1, " + what + ")", x -> x.of(1, what), -1);
        }
        CakeCalendar x = sitting(new CakeCalendar(), 1, 9, 9, 1, 1, 1, 1);
        due("none at 0", x.of(0, 3), 0);
        due("all six at 1", x.of(1, 3), 63);
        x.pass(2);
        x.seat(0, 0);
        x.seat(5, 2);
        x.hide(0, 4);
        due("DAY", x.of(1, 0), 1);
        due("LEFT", x.of(1, 1), 0);
        due("LEFT", x.of(0, 1), 8);
        due("HIDDEN", x.of(0, 2), 4);
        due("the lowest bit", x.of(0, 3), 1);
        due("who fasts has no bit", x.of(1, 3), 0b11110);
    }

    private static void sisterOf() {
        says(18, "NONE for others.");
        for (int s : outside(0, 5)) {
            refused("sisterOf(" + s + ", 0)", x -> x.sisterOf(s, 0), -1);
        }
        for (int what : outside(0, 2)) {
            refused("sisterOf(0, " + what + ")", x -> x.sisterOf(0, what), -1);
        }
        quiet(CakeCalendar::new, "of none", x -> x.sisterOf(0, 2), -1);
        quiet(Check::busy, "the 4th of three", x -> x.sisterOf(3, 1), -1);
        CakeCalendar x = full();
        due("SISTER 5", x.sisterOf(5, 0), 6);
        due("SISTER 0", x.sisterOf(0, 0), 1);
        due("SEAT", x.sisterOf(1, 1), 1);
    }

    private static void sheFasts() {
        says(18, "2 what she would eat now where she sits (0: she fasts)");
        CakeCalendar x = sitting(ruled("eats 9;"), 0, 4);
        due("9 of 12", x.sisterOf(0, 2), 9);
        x.pass(1);
        due("3 that are LEFT", x.sisterOf(0, 2), 3);
        x.hide(0, 3);
        due("nothing is LEFT", x.sisterOf(0, 2), 0);
        x.seat(0, 2);
        due("she fasts", x.sisterOf(0, 2), 0);
        x.seat(0, 1);
        due("at the other TABLE", x.sisterOf(0, 2), 9);
        // As she would now: who sits ahead of her does not come first, and no new cake is baked.
        CakeCalendar y = sitting(new CakeCalendar(), 0, 9, 8);
        due("SISTER 1 alone", y.sisterOf(1, 2), 8);
        y.pass(1);
        due("eaten up", y.sisterOf(0, 2), 0);
    }

    private static void comes() {
        says(19, "NONE: none, and for others (DAY 0 .. 999).");
        for (int t : outside(0, 1)) {
            refused("comes(" + t + ", 0, true)", x -> x.comes(t, 0, true), -1);
            refused("comes(" + t + ", 0, false)", x -> x.comes(t, 0, false), -1);
        }
        for (int d : outside(0, 999)) {
            refused("comes(0, " + d + ", true)", x -> x.comes(0, d, true), -1);
            refused("comes(1, " + d + ", false)", x -> x.comes(1, d, false), -1);
        }
        refused("DAY 0", x -> x.comes(1, 0, true), 0);
        refused("DAY 999", x -> x.comes(0, 999, true), -1);
    }

    private static void odds() {
        says(20, "ODDS: the upper (0), the lower one (1). NONE for others.");
        for (int t : outside(0, 1)) {
            refused("odds(" + t + ", 0, 1, 0)", x -> x.odds(t, 0, 1, 0), -1);
        }
        for (int d : outside(0, 999)) {
            refused("odds(0, " + d + ", 1, 0)", x -> x.odds(0, d, 1, 0), -1);
        }
        for (int n : outside(0, 15)) {
            refused("odds(1, 0, " + n + ", 0)", x -> x.odds(1, 0, n, 0), -1);
            refused("odds(1, 0, " + n + ", 1)", x -> x.odds(1, 0, n, 1), -1);
        }
        for (int what : outside(0, 1)) {
            refused("odds(0, 0, 1, " + what + ")", x -> x.odds(0, 0, 1, what), -1);
        }
        refused("the upper one, DAY 0", x -> x.odds(1, 0, 15, 0), 1);
        refused("the lower one, DAY 0", x -> x.odds(1, 0, 15, 1), 1);
        refused("the upper one, DAY 999", x -> x.odds(0, 999, 15, 0), 0);
        refused("the lower one, DAY 999", x -> x.odds(0, 999, 15, 1), 1);
    }

    private static void apart() {
        says(21, "APART. -1000 for others.");
        for (int n : outside(0, 60)) {
            refused("apart(" + n + ")", x -> x.apart(n), -1000);
        }
        quiet(CakeCalendar::new, "apart(0)", x -> x.apart(0), 0);
        quiet(CakeCalendar::new, "apart(60)", x -> x.apart(60), 0);
    }

    private static void flour() {
        says(22, "FLOUR. NONE for others.");
        for (int t : outside(0, 1)) {
            refused("flour(" + t + ", 0, 0)", x -> x.flour(t, 0, 0), -1);
        }
        for (int d : outside(0, 999)) {
            refused("flour(0, " + d + ", 999)", x -> x.flour(0, d, 999), -1);
            refused("flour(1, 0, " + d + ")", x -> x.flour(1, 0, d), -1);
            refused("flour(1, " + d + ", " + d + ")", x -> x.flour(1, d, d), -1);
        }
        quiet(CakeCalendar::new, "all of them", x -> x.flour(1, 0, 999), 12000);
    }

    private static void saint() {
        says(23, "SAINT: how many SISTERS have another SEAT (sister NONE); the SEAT of one. NONE: it can't be, and for others.");
        for (int t : outside(0, 1)) {
            refused("saint(" + t + ", 1, 2, -1)", x -> x.saint(t, 1, 2, -1), -1);
        }
        for (int d : outside(0, 999)) {
            refused("saint(0, " + d + ", 2, -1)", x -> x.saint(0, d, 2, -1), -1);
        }
        for (int n : outside(1, 30)) {
            refused("saint(0, 1, " + n + ", -1)", x -> x.saint(0, 1, n, -1), -1);
        }
        // Both cakes eaten up by mice: DAY 1 comes to each TABLE after 1.
        CakeCalendar mice = new CakeCalendar();
        mice.mice(10);
        mice.pass(12);
        due("TABLE 0", mice.saint(0, 1, 1, -1), 0);
        due("TABLE 1", mice.saint(1, 1, 1, -1), 0);
        due("TABLE 2", mice.saint(2, 1, 1, -1), -1);
        due("TABLE -1", mice.saint(-1, 1, 1, -1), -1);
        due("no SISTERS", mice.saint(0, 1, 1, 0), -1);
        // Asked where it can be, so that only the SISTER is at fault.
        due("it can be", full().saint(0, full().of(0, 0) + 1, 3, -1) >= 0, true);
        for (int s : outside(-1, 5)) {
            refused("SISTER " + s, x -> x.saint(0, x.of(0, 0) + 1, 3, s), -1);
        }
        CakeCalendar y = sitting(new CakeCalendar(), 0, 6);
        due("how many", y.saint(0, 1, 3, -1), 0);
        due("the SEAT of one", y.saint(0, 1, 3, 0), 0);
        due("a SISTER who is not told", y.saint(0, 1, 3, 1), -1);
        due("it can't be", y.saint(0, 1, 2, -1), -1);
        due("nor a SEAT then", y.saint(0, 1, 2, 0), -1);
        quiet(CakeCalendar::new, "no SISTERS", x -> x.saint(0, 1, 30, -1), -1);
    }

    private static void seen() {
        says(24, "SEEN: what was LEFT (0 .. 60; NONE: nothing is SEEN any more): how many DAWNS. -2 for others");
        for (int left : outside(-1, 60)) {
            refused("seen(" + left + ")", x -> x.seen(left), -2);
        }
        CakeCalendar x = new CakeCalendar();
        due("seen(60)", x.seen(60), 1);
        due("seen(0)", x.seen(0), 2);
        x.seen(61);
        due("SEEN", x.about(7), 2);
        due("seen(NONE)", x.seen(-1), 0);
        due("SEEN", x.about(7), 0);
        due("once more", x.seen(-1), 0);
        due("anew", x.seen(12), 1);
        due("what was SEEN ahead is gone", x.who(0, 0, -1), 1);
    }

    private static void seenEight() {
        says(24, "or if there are 8.");
        CakeCalendar x = new CakeCalendar();
        for (int i = 1; i <= 7; i++) {
            due("seen(12)", x.seen(12), i);
        }
        due("the 8th", x.seen(12), 8);
        due("the 9th", x.seen(12), -2);
        due("the 9th is not SEEN", x.seen(0), -2);
        due("SEEN", x.about(7), 8);
        due("all eight stay", x.who(0, 0, -1), 1);
        quiet(Check::full, "seen(0) of 8", y -> y.seen(0), -2);
        quiet(Check::full, "seen(60) of 8", y -> y.seen(60), -2);
        due("nothing is SEEN any more", x.seen(-1), 0);
        due("room again", x.seen(12), 1);
    }

    private static void who() {
        says(25, "WHO at a TABLE, of a DAY's cake: how many sets (i NONE), the i-th. NONE if there is none such, and for others.");
        for (int t : outside(0, 1)) {
            refused("who(" + t + ", 0, -1)", x -> x.who(t, 0, -1), -1);
        }
        for (int d : outside(0, 999)) {
            refused("who(0, " + d + ", -1)", x -> x.who(0, d, -1), -1);
        }
        for (int i : outside(-1, 63)) {
            refused("who(0, 0, " + i + ")", x -> x.who(0, 0, i), -1);
        }
        quiet(CakeCalendar::new, "one set of none", x -> x.who(0, 0, -1), 1);
        quiet(CakeCalendar::new, "the empty one", x -> x.who(1, 999, 0), 0);
        quiet(CakeCalendar::new, "no second", x -> x.who(1, 999, 1), -1);
        CakeCalendar x = sitting(new CakeCalendar(), 2, 1, 1, 1, 1, 1, 1);
        due("64 sets", x.who(0, 0, -1), 64);
        due("the first", x.who(0, 0, 0), 0);
        due("the last", x.who(0, 0, 63), 63);
        due("none such", x.who(0, 0, 64), -1);
        x.seen(13);
        due("no set", x.who(0, 0, -1), 0);
        due("none such", x.who(0, 0, 0), -1);
    }

    private static void image() {
        says(26, "THE IMAGE is as all is now: DAWN.");
        quiet(CakeCalendar::new, "image() of a new object", x -> x.image(), 0);
        CakeCalendar x = atDawn(999);
        due("image() at 999", x.image(), 999);
        x.undo();
        due("back()", x.back(), 999);
        due("a later image takes its place", full().image(), 30);
    }

    private static void back() {
        says(27, "BACK to THE IMAGE (it stays): DAWN.");
        quiet(CakeCalendar::new, "back() of a new object", x -> x.back(), 0);
        CakeCalendar x = full();
        x.image();
        List<Long> all = looks(x);
        for (int round = 0; round < 3; round++) {
            x.pass(2);
            x.seat(round, 2);
            x.mice(round);
            x.seen(-1);
            x.by(round);
            due("back()", x.back(), 30);
            due("all is so again", looks(x), all);
        }
    }

    private static void about() {
        says(28, "0 SISTERS, 1 DAWN, 2 MICE, 3 X, 4 TEXTS, 5 THE TEXT (NONE), 6 STEPS that can be taken back, 7 SEEN, 8 bytes of the tape. -2 for others.");
        for (int what : outside(0, 8)) {
            refused("about(" + what + ")", x -> x.about(what), -2);
        }
        refused("about(-1)", x -> x.about(-1), -2);
        long[] new0 = {0, 0, 0, 11, 0, -1, 0, 0, 0};
        long[] full0 = {6, 30, 10, 0, 4, 3, 30, 8, 300};
        int drawn = 11;
        for (int i = 0; i < 60; i++) {
            drawn = (drawn * 173 + 79) % 30089;
        }
        full0[3] = drawn;
        for (int i = 0; i < 9; i++) {
            due("about(" + i + ") of a new object", new CakeCalendar().about(i), new0[i]);
            due("about(" + i + ") where all is full", full().about(i), full0[i]);
        }
    }
}
