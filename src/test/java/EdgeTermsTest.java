/** Each sentence of the Terms' first part (tables, sisters, dawns, steps) that names an edge. */
public final class EdgeTermsTest extends Check {
    public static void main(String[] args) {
        tables();
        firstCake();
        sistersOneByOne();
        appetites();
        fastsAtFirst();
        dawnAtFirst();
        miceAtFirst();
        slicesAtLeastAtMost();
        slicesWithout();
        eatsAtLeastAtMost();
        eatsWithout();
        asMuchAsIsLeft();
        dawnIsOneMoreFirst();
        eatenUp();
        dayAtMost999();
        sisterBySister();
        tableByTable();
        belowMice();
        ifThereIsOne();
        drawsWrap();
        drawsAreKept();
        hidden();
        givenBack();
        seated();
        whatIsAStep();
        latest30();
        latest30Anew();
        latestFirst();
        toldSinceStay();
        finish("edges of the terms");
    }

    private static void tables() {
        says(0, "TABLES 0 and 1: each has a DAY (0 .. 999; at first 0)");
        CakeCalendar x = new CakeCalendar();
        due("DAY at 0", x.of(0, 0), 0);
        due("DAY at 1", x.of(1, 0), 0);
        due("no TABLE 2", x.of(2, 0), -1);
        due("no TABLE -1", x.of(-1, 0), -1);
        // Each has its own.
        sitting(x, 1, 9, 9);
        x.pass(2);
        due("DAY at 0", x.of(0, 0), 0);
        due("DAY at 1", x.of(1, 0), 1);
    }

    private static void firstCake() {
        says(0, "at first LEFT is SLICES of DAY 0, as without laws; HIDDEN 0");
        CakeCalendar x = new CakeCalendar();
        for (int t = 0; t < 2; t++) {
            due("LEFT", x.of(t, 1), 12);
            due("HIDDEN", x.of(t, 2), 0);
        }
        told(x, "slices 5;");
        x.by(0);
        due("SLICES by the law", x.slices(0, 0), 5);
        due("LEFT stays", x.of(0, 1), 12);
        sitting(x, 0, 9, 9);
        due("all 12 are eaten", x.pass(1), 12);
        due("then the law's 5", x.pass(1), 5);
    }

    private static void sistersOneByOne() {
        says(0, "SISTERS 0 .. 5 (told one by one)");
        CakeCalendar x = new CakeCalendar();
        for (int i = 0; i < 6; i++) {
            due("not told yet", x.sisterOf(i, 0), -1);
            due("not to be seated yet", x.seat(i, 0), false);
            due("told", x.sister(9 - i), i);
            due("APPETITE", x.sisterOf(i, 0), 9 - i);
            due("to be seated", x.seat(i, i % 2), true);
        }
        due("no SISTER 6", x.sister(1), -1);
        due("who sits at 0", x.of(0, 3), 0b010101);
        due("who sits at 1", x.of(1, 3), 0b101010);
    }

    private static void appetites() {
        says(0, "APPETITE (0 .. 9)");
        for (int a = 0; a <= 9; a++) {
            CakeCalendar x = sitting(new CakeCalendar(), 0, a);
            due("APPETITE", x.sisterOf(0, 0), a);
            due("she EATS", x.pass(1), a);
        }
    }

    private static void fastsAtFirst() {
        says(0, "SEAT (0, 1; 2: she fasts, at first)");
        CakeCalendar x = new CakeCalendar();
        x.sister(9);
        due("SEAT at first", x.sisterOf(0, 1), 2);
        due("she EATS nothing", x.pass(5), 0);
        x.seat(0, 1);
        due("at 1", x.pass(1), 9);
        x.seat(0, 2);
        due("she fasts again", x.pass(1), 0);
        x.back();
        due("told anew", x.sister(9), 0);
        due("SEAT at first", x.sisterOf(0, 1), 2);
        // A place that another SISTER had ahead of BACK.
        for (int i = 1; i < 6; i++) {
            x.sister(9);
            x.seat(i, 0);
        }
        x.back();
        for (int i = 0; i < 6; i++) {
            x.sister(1);
            due("SEAT at first", x.sisterOf(i, 1), 2);
        }
        due("none sits", x.of(0, 3), 0);
    }

    private static void dawnAtFirst() {
        says(0, "DAWN 0 .. 999 (at first 0)");
        CakeCalendar x = new CakeCalendar();
        due("DAWN at first", x.about(1), 0);
        passTo(x, 998);
        due("to 999", x.pass(1), 0);
        due("DAWN", x.about(1), 999);
        due("not beyond", x.pass(1), -1);
        due("DAWN", x.about(1), 999);
        told(x, "pass 1;");
        due("nor by a TEXT", x.played(0), 0);
        due("DAWN", x.about(1), 999);
        due("taken back", x.undo(), 29);
        due("by a TEXT to 999", x.played(0), -1);
    }

    private static void miceAtFirst() {
        says(0, "MICE (0 .. 10; at first 0). X: at first 11.");
        CakeCalendar x = new CakeCalendar();
        due("MICE at first", x.about(2), 0);
        due("X at first", x.about(3), 11);
        due("no mice come", x.pass(20), 0);
        x.mice(10);
        due("mice come each time", x.pass(12), 24);
    }

    private static void slicesAtLeastAtMost() {
        says(0, "SLICES of a DAY at a TABLE: slices (1 at least, 60 at most");
        String[] law = {"-1000*1000", "-1", "0", "1", "2", "59", "60", "61", "9999", "1000*1000"};
        int[] due = {1, 1, 1, 1, 2, 59, 60, 60, 60, 60};
        for (int i = 0; i < law.length; i++) {
            CakeCalendar x = sitting(ruled("slices " + law[i] + ";eats 9;"), 0, 0, 0);
            due("SLICES of " + law[i], x.slices(0, 1), due[i]);
            due("FLOUR of " + law[i], x.flour(1, 0, 1), 2 * due[i]);
            due("the first cake", x.pass(1), 12);
            due("a cake that is baked by " + law[i], x.pass(1), Math.min(18, due[i]));
            due("LEFT", x.of(0, 1), Math.max(0, due[i] - 18));
            x.seen(due[i]);
            due("WHO of " + law[i], x.who(0, 1, 0), 0);
        }
    }

    private static void slicesWithout() {
        says(0, "without: 12");
        CakeCalendar x = new CakeCalendar();
        due("no TEXT", x.slices(0, 5), 12);
        told(x, "slices 4;");
        due("a TEXT that doesn't rule", x.slices(0, 5), 12);
        told(x, "eats 4;pass 1;");
        x.by(1);
        due("THE TEXT has no such law", x.slices(0, 5), 12);
        told(x, "");
        x.by(2);
        due("THE TEXT is empty", x.slices(1, 999), 12);
        x.by(0);
        due("THE TEXT has one", x.slices(1, 999), 4);
        x.by(-1);
        due("no TEXT rules", x.slices(1, 999), 12);
    }

    private static void eatsAtLeastAtMost() {
        says(0, "A SISTER EATS at a TABLE: eats (0 at least, 9 at most");
        String[] law = {"-1000*1000", "-1", "0", "1", "8", "9", "10", "9999", "1000*1000"};
        int[] due = {0, 0, 0, 1, 8, 9, 9, 9, 9};
        for (int i = 0; i < law.length; i++) {
            CakeCalendar x = sitting(ruled("eats " + law[i] + ";"), 1, 5);
            due("she would eat by " + law[i], x.sisterOf(0, 2), due[i]);
            x.seen(12 - due[i]);
            due("WHO by " + law[i], x.who(1, 0, due[i] == 0 ? 1 : 0), 1);
            due("she EATS by " + law[i], x.pass(1), due[i]);
            due("LEFT", x.of(1, 1), 12 - due[i]);
        }
    }

    private static void eatsWithout() {
        says(0, "without: APPETITE");
        CakeCalendar x = sitting(new CakeCalendar(), 0, 7);
        due("no TEXT", x.sisterOf(0, 2), 7);
        told(x, "eats 2;");
        due("a TEXT that doesn't rule", x.sisterOf(0, 2), 7);
        told(x, "slices 3;");
        x.by(1);
        due("THE TEXT has no such law", x.sisterOf(0, 2), 7);
        x.by(0);
        due("THE TEXT has one", x.sisterOf(0, 2), 2);
    }

    private static void asMuchAsIsLeft() {
        says(0, "as much as is LEFT");
        for (int hide = 2; hide <= 9; hide++) {
            int left = 12 - hide;
            CakeCalendar x = sitting(new CakeCalendar(), 0, 9);
            x.hide(0, hide);
            due("she would eat of " + left, x.sisterOf(0, 2), Math.min(9, left));
            due("she EATS of " + left, x.pass(1), Math.min(9, left));
            due("LEFT", x.of(0, 1), Math.max(0, left - 9));
            due("HIDDEN stays", x.of(0, 2), hide);
        }
        CakeCalendar y = sitting(new CakeCalendar(), 0, 9, 3, 5);
        due("9 and 3 and nothing", y.pass(1), 12);
        due("LEFT", y.of(0, 1), 0);
        CakeCalendar z = sitting(ruled("eats 9;"), 0, 0);
        z.hide(0, 9);
        due("by a law too", z.pass(1), 3);
        due("of nothing", z.pass(1), 0);
    }

    private static void dawnIsOneMoreFirst() {
        says(0, "A DAWN: DAWN is one more; TABLE by TABLE");
        CakeCalendar x = sitting(ruled("slices dawn+30;eats dawn*6;"), 0, 0);
        due("at DAWN 1", x.pass(1), 6);
        due("at DAWN 2: 6 are LEFT", x.pass(1), 6);
        due("at DAWN 3: a cake of 33", x.pass(1), 9);
        due("LEFT", x.of(0, 1), 24);
        CakeCalendar y = sitting(ruled("eats dawn*3;"), 1, 0);
        due("at TABLE 1 as at TABLE 0", y.pass(1), 3);
    }

    private static void eatenUp() {
        says(0, "if nothing is LEFT and HIDDEN (its cake is eaten up), its DAY is one more");
        CakeCalendar x = sitting(new CakeCalendar(), 0, 9, 9);
        x.hide(0, 1);
        due("11 are eaten", x.pass(1), 11);
        due("one HIDDEN: nothing", x.pass(1), 0);
        due("DAY", x.of(0, 0), 0);
        x.give(0, 1);
        due("one LEFT, none HIDDEN: no new cake", x.pass(1), 1);
        due("DAY", x.of(0, 0), 0);
        due("eaten up, but the DAY comes with a DAWN", x.of(0, 1) + x.of(0, 2), 0);
        due("a new cake", x.pass(1), 12);
        due("DAY", x.of(0, 0), 1);
        due("the other TABLE's DAY", x.of(1, 0), 0);
        CakeCalendar y = sitting(new CakeCalendar(), 1, 6, 5);
        y.hide(1, 1);
        y.pass(1);
        y.give(1, 1);
        y.hide(1, 1);
        y.pass(3);
        due("LEFT 0, HIDDEN 1", y.of(1, 0) * 100 + y.of(1, 1) * 10 + y.of(1, 2), 1);
    }

    private static void dayAtMost999() {
        says(0, "its DAY is one more (999 at most: then it is still eaten up)");
        CakeCalendar x = sitting(ruled("slices 1;eats 9;"), 0, 0, 0);
        passTo(x, 999);
        // DAWN 1 was the first cake's, so DAY 999 can only be foreseen.
        due("DAY", x.of(0, 0), 998);
        due("eaten up", x.of(0, 1), 0);
        due("DAY 999 after 1", x.comes(0, 999, true), 1);
        due("DAY 999 after 1", x.comes(0, 999, false), 1);
        due("now", x.apart(0), 998);
        due("after 1", x.apart(1), 999);
        due("after 2: 999 at most", x.apart(2), 999);
        due("after 60", x.apart(60), 999);
        x.mice(5);
        due("ODDS after 0", x.odds(0, 999, 0, 0), 0);
        due("ODDS after 1", x.odds(0, 999, 1, 0), 1);
        due("ODDS after 15", x.odds(0, 999, 15, 0), 1);
        due("ODDS after 15", x.odds(0, 999, 15, 1), 1);
        due("DAY 1000 is none", x.comes(0, 1000, true), -1);
        due("SAINT after 1", x.saint(0, 999, 1, -1), 0);
        due("SAINT after 2", x.saint(0, 999, 2, -1), -1);
    }

    private static void sisterBySister() {
        says(0, "then SISTER by SISTER by number, who sits there: she EATS");
        CakeCalendar x = ruled("eats if sister=0?left/2:5 end;");
        x.sister(1);
        x.sister(1);
        x.sister(1);
        x.seat(1, 0);
        x.seat(0, 0);
        due("6 of 12, then 5; she who fasts nothing", x.pass(1), 11);
        due("LEFT", x.of(0, 1), 1);
        due("none sits at 1", x.of(1, 1), 12);
        // The first and the last number.
        CakeCalendar y = sitting(ruled("eats sister+left/12;"), 1, 0, 0, 0, 0, 0, 0);
        due("1 of 12, then 1, 2, 3, 4, and 1 that is LEFT", y.pass(1), 12);
        CakeCalendar z = sitting(ruled("eats if sister=5?9:0 end;"), 1, 0, 0, 0, 0, 0, 0);
        due("SISTER 5 alone", z.pass(1), 9);
    }

    private static void tableByTable() {
        says(0, "TABLE by TABLE");
        CakeCalendar x = new CakeCalendar();
        x.mice(2);
        // The first draw, of X 11, is TABLE 0's, the second, of X 1982, is TABLE 1's.
        x.pass(1);
        due("1 is below 2", x.of(0, 1), 11);
        due("2 is not below 2", x.of(1, 1), 12);
        x.undo();
        x.mice(3);
        x.pass(1);
        due("1 is below 3", x.of(0, 1), 11);
        due("2 is below 3", x.of(1, 1), 11);
    }

    private static void belowMice() {
        says(0, "then a draw: X mod 10 below MICE: one slice less is LEFT");
        CakeCalendar x = new CakeCalendar();
        // X 20, then 3539.
        x.seed(3);
        due("0 is not below 0, 9 neither", x.pass(1), 0);
        x.seed(3);
        x.mice(1);
        due("0 is below 1", x.pass(1), 1);
        due("at TABLE 0", x.of(0, 1), 11);
        // X 29, then 5096.
        x.seed(6);
        x.mice(9);
        due("9 is not below 9, 6 is", x.pass(1), 1);
        due("at TABLE 1", x.of(1, 1), 11);
        x.seed(6);
        x.mice(10);
        due("9 is below 10", x.pass(1), 2);
        x.seed(6);
        x.mice(6);
        due("6 is not below 6", x.pass(1), 0);
        x.seed(6);
        x.mice(7);
        due("6 is below 7", x.pass(1), 1);
    }

    private static void ifThereIsOne() {
        says(0, "one slice less is LEFT (if there is one)");
        CakeCalendar x = sitting(new CakeCalendar(), 0, 9, 3);
        x.mice(10);
        due("12 are eaten, a slice at TABLE 1", x.pass(1), 13);
        due("LEFT", x.of(0, 1), 0);
        CakeCalendar y = sitting(new CakeCalendar(), 0, 9, 2);
        y.mice(10);
        due("11 are eaten, then the last one", y.pass(1), 13);
        due("LEFT", y.of(0, 1), 0);
        CakeCalendar z = new CakeCalendar();
        z.mice(10);
        z.hide(0, 9);
        z.hide(0, 3);
        due("what is HIDDEN stays", z.pass(2), 2);
        due("HIDDEN", z.of(0, 2), 12);
        due("the draw is done all the same", z.about(3), drawn(11, 4));
    }

    private static int drawn(int x, int times) {
        int at = x;
        for (int i = 0; i < times; i++) {
            at = (at * 173 + 79) % 30089;
        }
        return at;
    }

    private static void drawsWrap() {
        says(0, "X is (X * 173 + 79) mod 30089 behind each draw.");
        CakeCalendar x = new CakeCalendar();
        x.seed(7359);
        due("X", x.about(3), 22088);
        // 22088 * 173 + 79 is 127 times 30089: 0, and then 79.
        x.pass(1);
        due("0, and 79", x.about(3), 79);
        x.undo();
        x.mice(1);
        due("8 is not below 1; 0 is", x.pass(1), 1);
        due("at TABLE 1", x.of(1, 1), 11);
        // 15131 goes to 30088, the highest, and that to 29995.
        x.seed(5040);
        due("X", x.about(3), 15131);
        x.mice(9);
        due("1 is below 9, 8 too", x.pass(1), 2);
        due("X", x.about(3), 29995);
        x.seed(9999);
        x.pass(1);
        due("from 30008", x.about(3), drawn(30008, 2));
        due("from 30008", drawn(30008, 1), 16155);
    }

    private static void drawsAreKept() {
        says(0, "X is (X * 173 + 79) mod 30089 behind each draw.");
        CakeCalendar x = new CakeCalendar();
        x.pass(1);
        due("two draws a DAWN, without mice too", x.about(3), 11986);
        x.pass(99);
        due("200 draws", x.about(3), drawn(11, 200));
        x.comes(0, 5, false);
        x.odds(0, 1, 15, 0);
        x.apart(60);
        x.saint(0, 1, 30, -1);
        x.who(0, 0, -1);
        due("what is foreseen draws nothing", x.about(3), drawn(11, 200));
        x.undo();
        due("taken back with its DAWN", x.about(3), drawn(11, 198));
    }

    private static void hidden() {
        says(0, "HIDDEN k (1 .. 9) at a TABLE: k slices that are LEFT are HIDDEN");
        for (int k = 1; k <= 9; k++) {
            CakeCalendar x = new CakeCalendar();
            due("hide(0, " + k + ")", x.hide(0, k), 12 - k);
            due("HIDDEN", x.of(0, 2), k);
        }
        CakeCalendar x = new CakeCalendar();
        due("none", x.hide(0, 0), -1);
        due("10", x.hide(0, 10), -1);
        due("9", x.hide(0, 9), 3);
        due("4 of 3", x.hide(0, 4), -1);
        due("3 of 3", x.hide(0, 3), 0);
        due("1 of 0", x.hide(0, 1), -1);
        due("HIDDEN", x.of(0, 2), 12);
        // A whole cake of 60: HIDDEN goes up to 60.
        CakeCalendar y = sitting(ruled("slices 60;eats 9;"), 1, 0, 0);
        y.pass(1);
        y.seat(0, 2);
        y.seat(1, 2);
        y.pass(1);
        for (int i = 0; i < 6; i++) {
            y.hide(1, 9);
        }
        due("the last 6", y.hide(1, 6), 0);
        due("HIDDEN", y.of(1, 2), 60);
        due("one more", y.hide(1, 1), -1);
    }

    private static void givenBack() {
        says(0, "GIVEN BACK k: likewise turned round.");
        for (int k = 1; k <= 9; k++) {
            CakeCalendar x = new CakeCalendar();
            x.hide(1, 9);
            due("give(1, " + k + ")", x.give(1, k), 3 + k);
            due("HIDDEN", x.of(1, 2), 9 - k);
        }
        CakeCalendar x = new CakeCalendar();
        due("1 of 0", x.give(0, 1), -1);
        x.hide(0, 9);
        x.hide(0, 3);
        due("none", x.give(0, 0), -1);
        due("10", x.give(0, 10), -1);
        due("9", x.give(0, 9), 9);
        due("4 of 3", x.give(0, 4), -1);
        due("3 of 3", x.give(0, 3), 12);
        due("HIDDEN", x.of(0, 2), 0);
        due("1 of 0", x.give(0, 1), -1);
    }

    private static void seated() {
        says(0, "SEATED: a SISTER has another SEAT.");
        CakeCalendar x = new CakeCalendar();
        x.sister(1);
        int[] seats = {0, 1, 2, 1, 0, 2};
        for (int seat : seats) {
            due("another SEAT", x.seat(0, seat), true);
            due("SEAT", x.sisterOf(0, 1), seat);
            due("not another one", x.seat(0, seat), false);
        }
        due("STEPS", x.about(6), seats.length);
    }

    private static void whatIsAStep() {
        says(0, "STEPS: each DAWN, hiding, giving back, seating");
        CakeCalendar x = new CakeCalendar();
        x.sister(1);
        x.mice(1);
        x.seed(1);
        told(x, "slices 3;");
        x.by(0);
        x.seen(1);
        x.image();
        due("none of these is one", x.about(6), 0);
        x.hide(0, 1);
        due("hiding", x.about(6), 1);
        x.give(0, 1);
        due("giving back", x.about(6), 2);
        x.seat(0, 1);
        due("seating", x.about(6), 3);
        x.pass(2);
        due("each DAWN", x.about(6), 5);
        x.hide(0, 10);
        x.give(0, 1);
        x.seat(0, 1);
        x.pass(100);
        due("nor is what can't be", x.about(6), 5);
        told(x, "hide 1 at 0;seat 0 at 2;pass 3;give 1 at 0;give 1 at 0;pass 1;");
        due("the second give can't be", x.played(1), 4);
        due("by a TEXT as by hand", x.about(6), 11);
    }

    private static void latest30() {
        says(0, "the latest 30 can be taken back");
        CakeCalendar x = new CakeCalendar();
        x.hide(0, 1);
        for (int i = 0; i < 14; i++) {
            x.hide(1, 1);
            x.give(1, 1);
        }
        due("29", x.about(6), 29);
        x.hide(1, 9);
        due("30", x.about(6), 30);
        x.hide(1, 3);
        due("31: 30 yet", x.about(6), 30);
        for (int i = 29; i >= 0; i--) {
            due("undo()", x.undo(), i);
        }
        due("none more", x.undo(), -1);
        due("the first of 31 stays", x.of(0, 2), 1);
        due("the other 30 are taken back", x.of(1, 1), 12);
    }

    private static void latest30Anew() {
        says(0, "the latest 30 can be taken back");
        CakeCalendar x = new CakeCalendar();
        x.pass(45);
        for (int i = 0; i < 7; i++) {
            x.undo();
        }
        due("23 yet", x.about(6), 23);
        due("DAWN", x.about(1), 38);
        x.pass(7);
        due("30 again", x.about(6), 30);
        x.pass(1);
        due("30 yet", x.about(6), 30);
        for (int i = 29; i >= 0; i--) {
            due("undo()", x.undo(), i);
            due("DAWN", x.about(1), 16 + i);
            due("X", x.about(3), drawn(11, 2 * (16 + i)));
        }
        due("none more", x.undo(), -1);
        due("DAWN", x.about(1), 16);
    }

    private static void latestFirst() {
        says(0, "the latest first (TABLES, SEATS, DAWN, X are as ahead of it");
        CakeCalendar x = sitting(new CakeCalendar(), 0, 9, 9);
        x.hide(1, 2);
        x.pass(1);
        x.pass(1);
        x.give(1, 1);
        due("the giving back", x.undo(), 5);
        due("HIDDEN", x.of(1, 2), 2);
        due("the second DAWN", x.undo(), 4);
        due("DAY", x.of(0, 0), 0);
        due("LEFT", x.of(0, 1), 0);
        due("DAWN", x.about(1), 1);
        due("X", x.about(3), drawn(11, 2));
        due("the first DAWN", x.undo(), 3);
        due("LEFT", x.of(0, 1), 12);
        due("X", x.about(3), 11);
        due("the hiding", x.undo(), 2);
        due("LEFT", x.of(1, 1), 12);
        due("the second seating", x.undo(), 1);
        due("who sits at 0", x.of(0, 3), 1);
        due("the first seating", x.undo(), 0);
        due("who sits at 0", x.of(0, 3), 0);
        // X as ahead of the STEP, though SEED was told since.
        CakeCalendar y = new CakeCalendar();
        y.seed(5);
        y.hide(0, 1);
        y.seed(6);
        due("X", y.about(3), 29);
        y.undo();
        due("X", y.about(3), 26);
    }

    private static void toldSinceStay() {
        says(0, "MICE, SISTERS told since stay");
        CakeCalendar x = new CakeCalendar();
        x.pass(1);
        x.mice(7);
        x.sister(4);
        x.sister(5);
        told(x, "slices 3;");
        x.by(0);
        x.seen(9);
        x.feed(0, 0, 0, 0, 0);
        due("undo()", x.undo(), 0);
        due("MICE", x.about(2), 7);
        due("SISTERS", x.about(0), 2);
        due("APPETITE", x.sisterOf(1, 0), 5);
        due("they fast", x.sisterOf(0, 1), 2);
        due("they fast", x.sisterOf(1, 1), 2);
        due("TEXTS", x.about(4), 1);
        due("THE TEXT", x.about(5), 0);
        due("SEEN", x.about(7), 1);
        due("the tape", x.about(8), 20);
        // Seated since: that SEAT is taken back, she stays.
        x.seat(1, 0);
        due("undo()", x.undo(), 0);
        due("SISTERS", x.about(0), 2);
        due("her SEAT", x.sisterOf(1, 1), 2);
    }
}
