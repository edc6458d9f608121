/** Each sentence of the Terms' third part (what is foreseen, SAINT, WHO, the image) that names an edge. */
public final class EdgeForesightTest extends Check {
    public static void main(String[] args) {
        nothingDone();
        comesNow();
        comesWithin60();
        soonestAndLatest();
        oddsOfNow();
        oddsUpTo15();
        oddsByMice();
        oddsInLowestTerms();
        apartUpTo60();
        apartBehind();
        flourNotBelow();
        flourAsAtThisDawn();
        saintUpTo30();
        saintNotSooner();
        saintWithoutMice();
        saintFewest();
        saintLowestSeat();
        seenEight();
        whoOfACake();
        whoNames();
        whoNoNewCake();
        whoByNumber();
        behindTheLastDawn();
        image();
        imageLeavesOut();
        backStays();
        finish("edges of what is foreseen");
    }

    private static void nothingDone() {
        says(0, "From how all stands, seats as they are, nothing done but DAWNS");
        for (int d = 0; d < 1000; d += 333) {
            int day = d;
            stays("comes SOONEST", x -> x.comes(0, day, false));
            stays("comes LATEST", x -> x.comes(1, day, true));
            stays("odds", x -> x.odds(0, day, 15, 0));
            stays("flour", x -> x.flour(1, 0, day));
            stays("saint", x -> x.saint(0, day, 30, -1));
            stays("who", x -> x.who(1, day, 0));
            stays("slices", x -> x.slices(0, day));
        }
        stays("apart(0)", x -> x.apart(0));
        stays("apart(60)", x -> x.apart(60));
        stays("a SAINT who can be", x -> x.saint(0, x.of(0, 0) + 1, 3, 0));
    }

    /** Whatever is answered, nothing is changed. */
    private static void stays(String call, Call c) {
        quiet(CakeCalendar::new, call, c, c.on(new CakeCalendar()));
        quiet(Check::busy, call, c, c.on(busy()));
        quiet(Check::full, call, c, c.on(full()));
    }

    private static void comesNow() {
        says(0, "after how many DAWNS it has that DAY or a later one (0: now");
        CakeCalendar x = sitting(new CakeCalendar(), 0, 9, 9);
        x.pass(4);
        due("DAY", x.of(0, 0), 3);
        for (int d = 0; d <= 3; d++) {
            due("DAY " + d + " is there or has gone", x.comes(0, d, true), 0);
            due("DAY " + d + " is there or has gone", x.comes(0, d, false), 0);
        }
        due("DAY 4, of a cake that is eaten up", x.comes(0, 4, true), 1);
        due("DAY 4", x.comes(0, 4, false), 1);
        due("DAY 0 at the other TABLE", x.comes(1, 0, true), 0);
        due("DAY 1 at the other TABLE", x.comes(1, 1, true), -1);
        x.hide(1, 1);
        due("DAY 1 with a slice HIDDEN", x.comes(1, 1, false), -1);
        due("DAY 0 with a slice HIDDEN", x.comes(1, 0, false), 0);
    }

    private static void comesWithin60() {
        says(0, "0 .. 60; none: not within");
        // One slice a DAWN: DAY 5 comes 1 behind 60 DAWNS at first.
        CakeCalendar x = sitting(new CakeCalendar(), 0, 1);
        due("LATEST at 61", x.comes(0, 5, true), -1);
        x.pass(1);
        due("LATEST at 60", x.comes(0, 5, true), 60);
        due("LATEST of the one ahead", x.comes(0, 4, true), 48);
        x.pass(1);
        due("LATEST at 59", x.comes(0, 5, true), 59);
        CakeCalendar y = new CakeCalendar();
        due("SOONEST at 61", y.comes(1, 5, false), -1);
        y.mice(10);
        y.pass(1);
        due("SOONEST at 60", y.comes(1, 5, false), 60);
        due("LATEST: never", y.comes(1, 1, true), -1);
        // A DAY a DAWN.
        CakeCalendar z = sitting(ruled("slices 1;eats 9;"), 1, 0, 0);
        due("DAY 59 at 60", z.comes(1, 59, true), 60);
        due("DAY 60 at 61", z.comes(1, 60, true), -1);
        z.pass(1);
        for (int d = 1; d <= 60; d++) {
            due("DAY " + d, z.comes(1, d, d % 2 == 0), d);
        }
        due("DAY 61", z.comes(1, 61, true), -1);
        due("DAY 61", z.comes(1, 61, false), -1);
        due("DAY 999", z.comes(1, 999, false), -1);
    }

    private static void soonestAndLatest() {
        says(0, "SOONEST if mice take a slice at each DAWN there, LATEST if never.");
        for (int mice = 0; mice <= 10; mice += 5) {
            CakeCalendar x = sitting(new CakeCalendar(), 1, 5);
            x.mice(mice);
            due("SOONEST: 6 a DAWN", x.comes(1, 1, false), 3);
            due("LATEST: 5 a DAWN", x.comes(1, 1, true), 4);
            due("SOONEST", x.comes(1, 3, false), 7);
            due("LATEST", x.comes(1, 3, true), 10);
        }
        // At just 12 a DAWN mice find nothing, at 11 the last one.
        CakeCalendar y = sitting(new CakeCalendar(), 0, 9, 3);
        due("SOONEST", y.comes(0, 5, false), 6);
        due("LATEST", y.comes(0, 5, true), 6);
        CakeCalendar z = sitting(new CakeCalendar(), 0, 9, 2);
        due("SOONEST", z.comes(0, 5, false), 6);
        due("LATEST", z.comes(0, 5, true), 11);
    }

    private static void oddsOfNow() {
        says(0, "ODDS that it has after n DAWNS (0 to 15)");
        CakeCalendar x = sitting(new CakeCalendar(), 0, 9, 9);
        x.pass(2);
        x.mice(5);
        odds(x, 0, 1, 0, 1, 1);
        odds(x, 0, 0, 0, 1, 1);
        odds(x, 0, 2, 0, 0, 1);
        odds(x, 0, 2, 1, 1, 1);
        due("after -1", x.odds(0, 1, -1, 0), -1);
        due("after -1", x.odds(0, 1, -1, 1), -1);
    }

    private static void odds(CakeCalendar x, int table, int day, int n, long upper, long lower) {
        due("the upper one of odds(" + table + ", " + day + ", " + n + ")", x.odds(table, day, n, 0), upper);
        due("the lower one of odds(" + table + ", " + day + ", " + n + ")", x.odds(table, day, n, 1), lower);
    }

    private static void oddsUpTo15() {
        says(0, "(0 to 15)");
        // One slice is LEFT, none sits there: DAY 1 after 15 DAWNS unless 14 draws fail.
        CakeCalendar x = sitting(new CakeCalendar(), 0, 9, 2);
        x.pass(1);
        x.seat(0, 2);
        x.seat(1, 2);
        long ninth = 1;
        long tenth = 1;
        for (int n = 1; n <= 15; n++) {
            x.mice(1);
            odds(x, 0, 1, n, tenth == 1 ? 0 : tenth - ninth, tenth);
            ninth *= 9;
            tenth *= 10;
        }
        due("14 draws", x.odds(0, 1, 15, 0), 77123207545039L);
        due("14 draws", x.odds(0, 1, 15, 1), 100000000000000L);
        due("after 16", x.odds(0, 1, 16, 0), -1);
        due("after 16", x.odds(0, 1, 16, 1), -1);
        // A DAY a DAWN: 15 DAYS, and no 16th.
        CakeCalendar y = sitting(ruled("slices 1;eats 9;"), 1, 0, 0);
        y.pass(1);
        odds(y, 1, 15, 15, 1, 1);
        odds(y, 1, 16, 15, 0, 1);
        // A cake of 60, the largest, of which nothing is eaten but by mice.
        CakeCalendar z = sitting(ruled("slices 60;eats 9;"), 1, 0, 0);
        z.pass(1);
        z.seat(0, 2);
        z.seat(1, 2);
        z.mice(5);
        odds(z, 1, 1, 1, 1, 1);
        odds(z, 1, 2, 15, 0, 1);
    }

    private static void oddsByMice() {
        says(0, "by MICE of 10 each DAWN");
        for (int mice = 0; mice <= 10; mice++) {
            CakeCalendar x = sitting(new CakeCalendar(), 0, 9, 2);
            x.mice(mice);
            int common = mice == 0 || mice == 10 ? 10 : mice == 5 ? 5 : mice % 2 == 0 ? 2 : 1;
            odds(x, 0, 1, 2, mice / common, 10 / common);
            odds(x, 0, 1, 3, 1, 1);
            odds(x, 0, 1, 1, 0, 1);
        }
        CakeCalendar y = sitting(new CakeCalendar(), 0, 9, 2);
        y.mice(5);
        y.hide(0, 1);
        odds(y, 0, 1, 15, 0, 1);
    }

    private static void oddsInLowestTerms() {
        says(0, "in lowest terms");
        CakeCalendar x = sitting(new CakeCalendar(), 1, 5, 5);
        x.mice(5);
        // 10 a DAWN, 11 with mice: two DAWNS in any case.
        odds(x, 1, 1, 2, 0, 1);
        odds(x, 1, 1, 3, 1, 1);
        // 10 by two DAWNS: both draws must hit, 4 of 100.
        CakeCalendar y = sitting(new CakeCalendar(), 1, 5);
        y.mice(2);
        odds(y, 1, 1, 3, 1, 25);
        y.mice(4);
        odds(y, 1, 1, 3, 4, 25);
        y.mice(5);
        odds(y, 1, 1, 3, 1, 4);
        y.mice(7);
        odds(y, 1, 1, 3, 49, 100);
        odds(y, 1, 1, 4, 1, 1);
    }

    private static void apartUpTo60() {
        says(0, "APART: by how many DAYS TABLE 0 is ahead of TABLE 1 after n DAWNS (0 .. 60) without mice");
        CakeCalendar x = sitting(new CakeCalendar(), 0, 4);
        x.pass(1);
        x.mice(10);
        // 8 are LEFT: a DAY each third DAWN.
        due("after 0", x.apart(0), 0);
        due("after 2", x.apart(2), 0);
        due("after 3", x.apart(3), 1);
        due("after 59", x.apart(59), 19);
        due("after 60", x.apart(60), 20);
        due("after 61", x.apart(61), -1000);
        due("after -1", x.apart(-1), -1000);
        x.pass(3);
        due("after 0, as all stands", x.apart(0), x.of(0, 0) - x.of(1, 0));
    }

    private static void apartBehind() {
        says(0, "(below 0: behind)");
        CakeCalendar x = sitting(new CakeCalendar(), 1, 9, 3);
        due("after 1", x.apart(1), 0);
        due("after 2", x.apart(2), -1);
        due("after 60", x.apart(60), -59);
        sitting(x, 0, 9, 3);
        due("alike", x.apart(60), 0);
        x.hide(0, 1);
        due("a slice HIDDEN at 0", x.apart(60), -59);
    }

    private static void flourNotBelow() {
        says(0, "FLOUR from a DAY to another one (not below; 0 .. 999 each) at a TABLE");
        CakeCalendar x = ruled("slices if day=0?2:if day=999?40:1 end end;");
        due("0 to 0", x.flour(0, 0, 0), 2);
        due("0 to 1", x.flour(0, 0, 1), 3);
        due("1 to 0", x.flour(0, 1, 0), -1);
        due("998 to 999", x.flour(1, 998, 999), 41);
        due("999 to 999", x.flour(1, 999, 999), 40);
        due("999 to 998", x.flour(1, 999, 998), -1);
        due("0 to 999", x.flour(1, 0, 999), 2 + 998 + 40);
        due("0 to 1000", x.flour(1, 0, 1000), -1);
        due("-1 to 0", x.flour(1, -1, 0), -1);
        due("1000 to 1000", x.flour(1, 1000, 1000), -1);
        due("-1 to -1", x.flour(1, -1, -1), -1);
        due("60 each", ruled("slices 9999;").flour(0, 0, 999), 60000);
    }

    private static void flourAsAtThisDawn() {
        says(0, "SLICES of all these together (as at this DAWN).");
        CakeCalendar x = ruled("slices dawn*10+table;");
        due("1 each at least", x.flour(0, 0, 9), 10);
        due("TABLE 1", x.flour(1, 0, 9), 10);
        x.pass(1);
        due("at DAWN 1", x.flour(0, 0, 9), 100);
        due("at DAWN 1", x.flour(1, 0, 9), 110);
        x.pass(98);
        due("60 each at most", x.flour(1, 0, 9), 600);
        x.undo();
        x.by(-1);
        due("12 each without", x.flour(1, 5, 9), 60);
    }

    private static void saintUpTo30() {
        says(0, "SAINT: that a TABLE comes to a DAY after just n DAWNS (1 to 30");
        CakeCalendar x = sitting(ruled("slices 18;"), 1, 1);
        // 12 and 18 slices, one a DAWN.
        due("DAY 2 after 31 is not asked", x.saint(1, 2, 31, -1), -1);
        due("it comes after 31", x.comes(1, 2, true), 31);
        x.pass(1);
        due("DAY 2 after 30", x.saint(1, 2, 30, -1), 0);
        due("DAY 2 after 30", x.saint(1, 2, 30, 0), 1);
        due("DAY 2 after 29", x.saint(1, 2, 29, -1), -1);
        CakeCalendar y = sitting(new CakeCalendar(), 0, 9, 3);
        y.pass(1);
        due("DAY 1 after 1", y.saint(0, 1, 1, -1), 0);
        due("DAY 0 after 0 is not asked", y.saint(0, 0, 0, -1), -1);
        due("DAY 30 after 30", y.saint(0, 30, 30, -1), 0);
        due("DAY 31 after 30", y.saint(0, 31, 30, -1), -1);
    }

    private static void saintNotSooner() {
        says(0, "after just n DAWNS (1 to 30; not sooner)");
        CakeCalendar x = sitting(new CakeCalendar(), 0, 6);
        due("DAY 0 is there", x.saint(0, 0, 1, -1), -1);
        due("DAY 1 after 2", x.saint(0, 1, 2, -1), -1);
        due("DAY 1 after 3", x.saint(0, 1, 3, -1), 0);
        due("DAY 1 after 4 would be sooner", x.saint(0, 1, 4, -1), -1);
        x.pass(3);
        due("DAY", x.of(0, 0), 1);
        due("DAY 1 is there", x.saint(0, 1, 1, -1), -1);
        due("DAY 0 has gone", x.saint(0, 0, 1, -1), -1);
        due("DAY 2 after 2", x.saint(0, 2, 2, -1), 0);
        x.hide(0, 1);
        due("a slice HIDDEN", x.saint(0, 2, 2, -1), -1);
    }

    private static void saintWithoutMice() {
        says(0, "not sooner) without mice");
        CakeCalendar x = sitting(new CakeCalendar(), 0, 9, 2);
        x.mice(10);
        due("DAY 1 after 3", x.saint(0, 1, 3, -1), 0);
        due("DAY 1 after 2 would be by mice", x.saint(0, 1, 2, -1), -1);
    }

    private static void saintFewest() {
        says(0, "the fewest SISTERS who have another SEAT now");
        CakeCalendar x = sitting(new CakeCalendar(), 2, 2, 2, 2, 2, 2, 2);
        due("all six", x.saint(0, 1, 2, -1), 6);
        for (int i = 0; i < 6; i++) {
            due("SEAT of " + i, x.saint(0, 1, 2, i), 0);
        }
        due("nobody is seated by that", x.of(0, 3), 0);
        for (int i = 0; i < 6; i++) {
            x.seat(i, 0);
            due("one less", x.saint(0, 1, 2, -1), 5 - i);
        }
        due("away from it", x.saint(0, 1, 3, -1), 1);
        due("no SISTERS", new CakeCalendar().saint(0, 1, 13, -1), -1);
        // Who is not told can't be seated, though by the law she would eat.
        CakeCalendar y = ruled("eats 6;");
        due("none is told", y.saint(0, 1, 3, -1), -1);
        y.sister(0);
        due("one is", y.saint(0, 1, 3, -1), 1);
        due("two would be", y.saint(0, 1, 2, -1), -1);
        // That nobody sits there is a choice too.
        CakeCalendar z = sitting(ruled("slices 2;eats 1;"), 0, 0);
        z.pass(12);
        due("DAY 1 after 1", z.saint(0, 1, 1, -1), 0);
        z.seat(0, 2);
        due("DAY 1 after 1, none sits there", z.saint(0, 1, 1, -1), 0);
        due("she fasts yet", z.saint(0, 1, 1, 0), 2);
    }

    private static void saintLowestSeat() {
        says(0, "of like ones the lowest SEAT of SISTER 0, then 1, .. .");
        // Two of four who fast must come: SISTER 0 has a lower SEAT if she does.
        CakeCalendar x = sitting(new CakeCalendar(), 2, 6, 6, 6, 6);
        due("two", x.saint(1, 1, 2, -1), 2);
        seats(x, 1, 1, 2, 1, 1, 2, 2);
        due("two", x.saint(0, 1, 2, -1), 2);
        seats(x, 0, 1, 2, 0, 0, 2, 2);
        // All at TABLE 1; one must leave: SISTER 0, to TABLE 0.
        CakeCalendar y = sitting(new CakeCalendar(), 1, 4, 4, 4);
        due("one leaves", y.saint(1, 1, 3, -1), 1);
        seats(y, 1, 1, 3, 0, 1, 1);
        // All at TABLE 0; one must leave: the last, to TABLE 1, so that SISTERS 0 and 1 keep SEAT 0.
        CakeCalendar z = sitting(new CakeCalendar(), 0, 4, 4, 4);
        due("one leaves", z.saint(0, 1, 3, -1), 1);
        seats(z, 0, 1, 3, 0, 0, 1);
        // SISTER 0 at SEAT 1 is asked to TABLE 0 sooner than SISTER 1 who fasts.
        CakeCalendar w = sitting(sitting(new CakeCalendar(), 1, 6), 2, 6);
        due("one comes", w.saint(0, 1, 3, -1), 1);
        seats(w, 0, 1, 3, 0, 2);
        // To TABLE 1 comes she who fasts, so that SISTER 0 keeps SEAT 0.
        CakeCalendar v = sitting(sitting(new CakeCalendar(), 0, 6), 2, 6);
        due("one comes", v.saint(1, 1, 3, -1), 1);
        seats(v, 1, 1, 3, 0, 1);
    }

    private static void seats(CakeCalendar x, int table, int day, int n, int... due) {
        for (int i = 0; i < due.length; i++) {
            due("SEAT of SISTER " + i, x.saint(table, day, n, i), due[i]);
        }
        due("SEAT of one who is not told", x.saint(table, day, n, due.length), -1);
    }

    private static void seenEight() {
        says(0, "WHO: SEEN (8 at most; told)");
        CakeCalendar x = sitting(ruled("slices 60;"), 2, 7);
        for (int i = 1; i <= 8; i++) {
            due("seen", x.seen(60 - 7 * i), i);
            due("all that is SEEN so far fits", x.who(0, 4, 0), 1);
        }
        due("the 9th", x.seen(0), -2);
        due("WHO by eight", x.who(0, 4, -1), 1);
        x.seen(-1);
        for (int i = 1; i <= 7; i++) {
            x.seen(60 - 7 * i);
        }
        x.seen(5);
        due("the 8th counts", x.who(0, 4, -1), 0);
    }

    private static void whoOfACake() {
        says(0, "of a cake of a DAY from its first DAWN on (its SLICES, nothing HIDDEN, no mice");
        CakeCalendar x = sitting(ruled("slices day+10;"), 0, 3);
        x.hide(0, 5);
        x.mice(10);
        x.pass(1);
        x.seen(7);
        due("DAY 0: 10 slices", x.who(0, 0, 0), 1);
        due("DAY 1: 11 slices", x.who(0, 1, -1), 0);
        x.seen(-1);
        x.seen(60);
        due("DAY 50: 60 slices, none sat there", x.who(1, 50, 0), 0);
        due("DAY 999: 60 slices", x.who(1, 999, 0), 0);
        due("DAY 49: 59 slices", x.who(1, 49, -1), 0);
        x.seen(-1);
        x.seen(57);
        due("DAY 999", x.who(1, 999, 0), 1);
        due("DAY 1000", x.who(1, 1000, -1), -1);
        due("nothing is SEEN: each set", x.seen(-1) == 0 && x.who(0, 0, -1) == 2, true);
    }

    private static void whoNames() {
        says(0, "names as they would be: dawn as now, one more for each");
        CakeCalendar x = ruled("slices 20+dawn;eats dawn;");
        x.sister(0);
        // At DAWN 1 a cake of 21, of which 1, 2, 3 are eaten.
        x.seen(20);
        x.seen(18);
        x.seen(15);
        due("from DAWN 0", x.who(0, 0, 0), 1);
        x.pass(1);
        due("from DAWN 1", x.who(0, 0, -1), 0);
        x.seen(-1);
        x.seen(20);
        due("from DAWN 1: 22 and 2", x.who(0, 0, 0), 1);
        CakeCalendar y = ruled("slices 20;eats day+table*2+sister*3+appetite-left/10;");
        y.sister(1);
        y.sister(2);
        // Of DAY 3's cake at TABLE 1, SISTER 1 alone: 3+2+3+2-2 = 8 of 20, then 9 of 12.
        y.seen(12);
        y.seen(3);
        due("SISTER 1", y.who(1, 3, 0), 2);
        due("alone", y.who(1, 3, -1), 1);
    }

    private static void whoNoNewCake() {
        says(0, "(a new cake isn't baked: nothing more is eaten)");
        CakeCalendar x = sitting(new CakeCalendar(), 0, 9, 9);
        x.seen(0);
        due("both at once", x.who(0, 0, 0), 3);
        for (int i = 2; i <= 8; i++) {
            due("and nothing more", x.seen(0), i);
            due("both", x.who(0, 0, -1), 1);
        }
        x.seen(-1);
        x.seen(3);
        x.seen(0);
        x.seen(0);
        due("one of them", x.who(0, 0, -1), 2);
        x.seen(3);
        due("no new cake", x.who(0, 0, -1), 0);
    }

    private static void whoByNumber() {
        says(0, "how many, the i-th by number.");
        CakeCalendar x = sitting(new CakeCalendar(), 1, 1, 2, 3, 4, 5, 6);
        x.seen(6);
        // 6 by {0,1,2}, {1,3}, {0,4}, {5}: 7, 10, 17, 32.
        due("how many", x.who(0, 0, -1), 4);
        due("the first", x.who(0, 0, 0), 7);
        due("the second", x.who(0, 0, 1), 10);
        due("the third", x.who(0, 0, 2), 17);
        due("the last", x.who(0, 0, 3), 32);
        due("none such", x.who(0, 0, 4), -1);
        due("none such", x.who(0, 0, -2), -1);
    }

    private static void behindTheLastDawn() {
        says(0, "nothing done but DAWNS");
        // DAWN 999 is the last that can be done; what is foreseen goes on, with dawn 1000 and more.
        CakeCalendar x = sitting(ruled("eats if dawn>999?dawn-998:0 end;"), 0, 1);
        passTo(x, 999);
        due("2 and 3 and 4 and 5 are eaten first", x.comes(0, 1, true), 5);
        due("ODDS", x.odds(0, 1, 5, 0), 1);
        due("ODDS", x.odds(0, 1, 4, 0), 0);
        due("APART", x.apart(4), 0);
        due("APART", x.apart(5), 1);
        due("SAINT", x.saint(0, 1, 5, -1), 0);
        x.seen(10);
        due("WHO", x.who(0, 0, 0), 1);
    }

    private static void image() {
        says(0, "AN IMAGE: all as it is");
        CakeCalendar x = busy();
        due("image()", x.image(), 3);
        CakeCalendar twin = busy();
        twin.image();
        // All is changed that can be.
        x.sister(1);
        x.mice(10);
        x.seed(9999);
        x.by(1);
        x.seat(2, 1);
        x.give(0, 1);
        x.pass(9);
        x.seen(-1);
        x.seen(60);
        due("back()", x.back(), 3);
        due("all is so again", looks(x).equals(looks(twin)), true);
        due("and by going on", tail(x).equals(tail(twin)), true);
        // What was SEEN, not just how much.
        CakeCalendar z = new CakeCalendar();
        z.seen(12);
        z.seen(12);
        z.image();
        z.seen(-1);
        z.seen(5);
        due("SEEN since", z.who(0, 0, -1), 0);
        z.back();
        due("SEEN", z.about(7), 2);
        due("as it was SEEN", z.who(0, 0, -1), 1);
        // STEPS taken back behind the image are there again.
        CakeCalendar y = full();
        y.image();
        for (int i = 0; i < 30; i++) {
            y.undo();
        }
        y.pass(40);
        y.back();
        due("STEPS", y.about(6), 30);
        for (int i = 29; i >= 0; i--) {
            y.undo();
            due("DAWN", y.about(1), i);
        }
    }

    private static void imageLeavesOut() {
        says(0, "but the tape and the latest FAULT");
        CakeCalendar x = new CakeCalendar();
        told(x, "pass 0;");
        x.feed(0x70617373, 0x20313b20, 0x20202020, 0x20202020, 0x20202020);
        x.image();
        told(x, "slices left;");
        x.feed(0x70617373, 0x20323b20, 0x20202020, 0x20202020, 0x20202020);
        x.end(8);
        x.back();
        due("the latest FAULT stays", x.fault(0), 5);
        due("its place stays", x.fault(1), 7);
        due("the tape stays", x.about(8), 8);
        due("it is a TEXT", x.text(), 0);
        x.played(0);
        due("pass 2", x.about(1), 2);
        x.back();
        due("TEXTS are in the image", x.about(4), 0);
        due("the latest was without a FAULT", x.fault(0), 0);
        due("no TEXT to be played", x.played(0), -2);
    }

    private static void backStays() {
        says(0, "BACK: all is so again.");
        CakeCalendar x = new CakeCalendar();
        told(x, "slices 5;");
        x.by(0);
        x.image();
        for (int i = 0; i < 3; i++) {
            due("another TEXT", told(x, "slices " + (20 + i) + ";"), 1);
            x.by(1);
            due("rules", x.slices(0, 0), 20 + i);
            x.pass(3);
            due("back()", x.back(), 0);
            due("THE TEXT", x.about(5), 0);
            due("SLICES", x.slices(0, 0), 5);
            due("TEXTS", x.about(4), 1);
            due("no TEXT 1", x.by(1), false);
        }
        x.by(-1);
        x.image();
        x.by(0);
        x.back();
        due("no TEXT rules", x.slices(0, 0), 12);
    }
}
