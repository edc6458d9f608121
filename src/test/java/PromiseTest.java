import java.util.Arrays;

/** For each promise of the document: ordinary calls, the edges that it names, and wrong calls. */
public final class PromiseTest extends Check {
    public static void main(String[] args) {
        newObject();
        sister();
        mice();
        seed();
        feedAndEnd();
        text();
        tokens();
        misplaced();
        badNumbers();
        tooDeep();
        secondTime();
        names();
        tooMany();
        sums();
        asks();
        by();
        slices();
        eats();
        seat();
        hideAndGive();
        pass();
        mouseDraws();
        played();
        undo();
        of();
        sisterOf();
        comes();
        odds();
        apart();
        flour();
        saint();
        seenAndWho();
        imageAndBack();
        about();
        finish("promises");
    }

    private static void newObject() {
        promise = 1;
        CakeCalendar x = new CakeCalendar();
        int[] due = {0, 0, 0, 11, 0, -1, 0, 0, 0};
        for (int i = 0; i < due.length; i++) {
            due("about(" + i + ")", x.about(i), due[i]);
        }
        for (int t = 0; t < 2; t++) {
            due("DAY", x.of(t, 0), 0);
            due("LEFT", x.of(t, 1), 12);
            due("HIDDEN", x.of(t, 2), 0);
            due("who sits", x.of(t, 3), 0);
        }
        x.sister(3);
        x.seat(0, 1);
        x.pass(4);
        x.mice(3);
        x.seen(5);
        told(x, "slices 3;");
        x.by(0);
        due("back() to the first image", x.back(), 0);
        for (int i = 0; i < due.length; i++) {
            due("about(" + i + ") after back", x.about(i), due[i]);
        }
        due("LEFT after back", x.of(1, 1), 12);
        due("NONE", CakeCalendar.NONE, -1);
    }

    private static void sister() {
        promise = 2;
        CakeCalendar x = new CakeCalendar();
        due("sister(-1)", x.sister(-1), -1);
        due("sister(10)", x.sister(10), -1);
        due("sister(min)", x.sister(Integer.MIN_VALUE), -1);
        for (int i = 0; i < 6; i++) {
            due("sister", x.sister(i == 0 ? 0 : i + 4), i);
        }
        due("the 7th", x.sister(1), -1);
        due("APPETITE", x.sisterOf(5, 0), 9);
        due("APPETITE", x.sisterOf(0, 0), 0);
        due("she fasts", x.sisterOf(3, 1), 2);
        due("SISTERS", x.about(0), 6);
    }

    private static void mice() {
        promise = 3;
        CakeCalendar x = new CakeCalendar();
        due("mice(10)", x.mice(10), true);
        due("mice(11)", x.mice(11), false);
        due("mice(-1)", x.mice(-1), false);
        due("MICE", x.about(2), 10);
        due("mice(0)", x.mice(0), true);
        due("MICE", x.about(2), 0);
        due("no STEP", x.about(6), 0);
    }

    private static void seed() {
        promise = 4;
        CakeCalendar x = new CakeCalendar();
        due("seed(9999)", x.seed(9999), true);
        due("X", x.about(3), 30008);
        due("seed(10000)", x.seed(10000), false);
        due("seed(-1)", x.seed(-1), false);
        due("X", x.about(3), 30008);
        due("seed(2)", x.seed(2), true);
        due("X", x.about(3), 17);
        due("no STEP", x.about(6), 0);
    }

    private static void feedAndEnd() {
        promise = 5;
        CakeCalendar x = new CakeCalendar();
        for (int i = 1; i <= 15; i++) {
            due("feed", x.feed(0x20202020, 0x20202020, 0x20202020, 0x20202020, 0x20202020), 20 * i);
        }
        due("feed beyond 300", x.feed(0, 0, 0, 0, 0), -1);
        due("bytes", x.about(8), 300);
        due("text of 300 blanks", x.text(), 0);
        due("empty then", x.about(8), 0);
        promise = 6;
        due("end(1) of an empty tape", x.end(1), -1);
        due("end(0)", x.end(0), 0);
        x.feed(0x70617373, 0x2031313b, -1, -1, -1);
        due("end(21)", x.end(21), -1);
        due("end(-1)", x.end(-1), -1);
        due("end(min)", x.end(Integer.MIN_VALUE), -1);
        due("bytes", x.about(8), 20);
        due("end(20)", x.end(20), 20);
        due("end(8)", x.end(8), 8);
        due("end(9)", x.end(9), -1);
        promise = 5;
        due("text: the highest of a came first", x.text(), 1);
        due("pass 11 is played", x.played(1), -1);
        due("DAWN", x.about(1), 11);
        x.feed(0, 0, 0, 0, 0);
        x.end(1);
        for (int i = 0; i < 13; i++) {
            x.feed(0, 0, 0, 0, 0);
        }
        due("bytes", x.about(8), 261);
        due("feed to 281", x.feed(0, 0, 0, 0, 0), 281);
        due("feed to 301", x.feed(0, 0, 0, 0, 0), -1);
        due("end(280)", x.end(280), 280);
        due("feed to 300", x.feed(0, 0, 0, 0, 0), 300);
    }

    private static void text() {
        promise = 7;
        CakeCalendar x = new CakeCalendar();
        promise = 8;
        due("fault(0) ahead of any", x.fault(0), -1);
        due("fault(1) ahead of any", x.fault(1), -1);
        promise = 7;
        due("an empty text", x.text(), 0);
        due("with a FAULT", told(x, "pass 0;"), -1);
        due("the tape is empty then too", x.about(8), 0);
        due("TEXTS", x.about(4), 1);
        due("text", told(x, "pass 1;"), 1);
        due("text", told(x, "pass 2;"), 2);
        due("with a FAULT", told(x, "pass;"), -1);
        due("text", told(x, "pass 3;"), 3);
        promise = 8;
        due("fault(0) without", x.fault(0), 0);
        due("fault(1) without", x.fault(1), -1);
        due("fault(2)", x.fault(2), -1);
        due("fault(-1)", x.fault(-1), -1);
        promise = 7;
        due("the 5th", told(x, "pas"), -1);
        due("the tape stays", x.about(8), 3);
        promise = 8;
        due("it was not read", x.fault(0), 0);
        promise = 15;
        due("played(3)", x.played(3), -1);
        due("DAWN", x.about(1), 3);
    }

    private static void tokens() {
        promise = 7;
        sound("");
        sound(" \n ");
        sound("slices day+table*dawn;eats sister+appetite*left;");
        sound("seat5at2;hide9at1;give1at0;pass99;");
        sound("pass 0000000000000000000000099;");
        sound("slices if 1<=2 and 1>=2 or 3#4?1:2 end;");
        faulty("slices 1\t;", 1, 8);
        faulty("slices 1\r;", 1, 8);
        faulty("slices 1 !;", 1, 9);
        faulty("\u0000", 1, 0);
        faulty("slices 1;\u00ff", 1, 9);
        faulty("slices if 1< =2?1:2 end;", 1, 13);
        faulty("slices if 1=<2?1:2 end;", 1, 12);
        faulty("slices if 1==2?1:2 end;", 1, 12);
        faulty("Slices 1;", 1, 0);
        faulty("slices Day;", 1, 7);
        faulty("slices daytable;", 1, 7);
        faulty("slices da;", 1, 7);
        faulty("slicesday;", 1, 0);
    }

    private static void misplaced() {
        promise = 8;
        faulty("slices;", 1, 6);
        faulty("slices 1", 1, 8);
        faulty("slices 1  ", 1, 10);
        faulty("slices", 1, 6);
        faulty("slices ( 1 ;", 1, 11);
        faulty("slices 1 ) ;", 1, 9);
        faulty("slices + 1;", 1, 7);
        faulty("slices 1 + ;", 1, 11);
        faulty("slices 1 +* 2;", 1, 10);
        faulty("slices 1 2;", 1, 9);
        faulty("slices not 1=1;", 1, 7);
        faulty("slices 1=1;", 1, 8);
        faulty("slices if 1 ? 2 : 3 end;", 1, 12);
        faulty("slices if 1=1=1 ? 2 : 3 end;", 1, 13);
        faulty("slices if (1=1) ? 2 : 3 end;", 1, 12);
        faulty("slices if 1=1 : 2 ? 3 end;", 1, 14);
        faulty("slices if 1=1 ? 2 end;", 1, 18);
        faulty("slices if 1=1 ? 2 : 3 ;", 1, 22);
        faulty("slices end;", 1, 7);
        faulty("slices at;", 1, 7);
        faulty("eats slices;", 1, 5);
        faulty("seat 0 0;", 1, 7);
        faulty("seat at 0;", 1, 5);
        faulty("seat 0 at ;", 1, 10);
        faulty("seat 0 at left;", 1, 10);
        faulty("seat 0 at 0 hide", 1, 12);
        faulty("pass -1;", 1, 5);
        faulty("pass 1+1;", 1, 6);
        faulty(";", 1, 0);
        faulty("pass 1;;", 1, 7);
        faulty("day", 1, 0);
        faulty("12345", 1, 0);
        faulty("slices 1 99999;", 1, 9);
        faulty("slices if 1=1 or ? 1 : 2 end;", 1, 17);
        faulty("slices if 1=1 and or 1=1 ? 1 : 2 end;", 1, 18);
        faulty("slices if not ? 1 : 2 end;", 1, 14);
    }

    private static void badNumbers() {
        promise = 8;
        sound("slices 9999;");
        faulty("slices 10000;", 2, 7);
        faulty("slices 1+ 99999999999999999999999;", 2, 10);
        faulty("slices 4294967297;", 2, 7);
        sound("slices 00009999;");
        faulty("seat 6 at 3;", 2, 5);
        faulty("seat 5 at 3;", 2, 10);
        sound("seat 5 at 2;");
        faulty("hide 0 at 0;", 2, 5);
        faulty("hide 10 at 0;", 2, 5);
        faulty("hide 9 at 2;", 2, 10);
        sound("hide 9 at 1;");
        faulty("give 0 at 0;", 2, 5);
        faulty("give 10 at 0;", 2, 5);
        faulty("give 1 at 2;", 2, 10);
        faulty("pass 0;", 2, 5);
        faulty("pass 100;", 2, 5);
        sound("pass 99;");
        faulty("pass 10000", 2, 5);
    }

    private static void tooDeep() {
        promise = 8;
        sound("slices ((((((((1))))))));");
        faulty("slices (((((((((1)))))))));", 3, 15);
        sound("slices --------1;");
        faulty("slices ---------1;", 3, 15);
        sound("slices 1---------1;");
        faulty("slices 1----------1;", 3, 17);
        sound("eats if not not not not not not not 1=1?1:2 end;");
        faulty("eats if not not not not not not not not 1=1?1:2 end;", 3, 36);
        faulty("eats if not not not not not not not (1)=1?1:2 end;", 3, 36);
        sound("eats if not not not not not not not 1=1?(-(-(-(1)))):2 end;");
        faulty("eats if 1=1?-(-(-(-(-1)))):2 end;", 3, 19);
        sound("eats -1*-1*-1*-1*-1*-1*-1*-1*-1*-1;");
        sound("eats (1)+(1)+(1)+(1)+(1)+(1)+(1)+(1)+(1)+(1);");
        sound("eats if 1=1?1:2 end+if 1=1?1:2 end+if 1=1?1:2 end+if 1=1?1:2 end+if 1=1?1:2 end+if 1=1?1:2 end"
            + "+if 1=1?1:2 end+if 1=1?1:2 end+if 1=1?1:2 end;");
        sound("eats if not 1=1 and not 1=1 and not 1=1 and not 1=1 and not 1=1 and not 1=1 and not 1=1 and not 1=1?1:2 end;");
        sound("eats -(-(-(-(1))))*(1);");
        faulty("eats ((((((((if", 3, 13);
        faulty("eats ((((((((;", 1, 13);
        faulty("eats ((((((((10000", 2, 13);
    }

    private static void secondTime() {
        promise = 8;
        faulty("slices 1;slices 2;", 4, 9);
        faulty("eats 1;slices 2;eats", 4, 16);
        faulty("slices 1;pass 1;slices", 4, 16);
        sound("slices 1;eats 1;pass 1;pass 1;");
        faulty("slices slices 1;", 1, 7);
    }

    private static void names() {
        promise = 8;
        faulty("slices sister;", 5, 7);
        faulty("slices appetite;", 5, 7);
        faulty("slices day+left;", 5, 11);
        faulty("eats left;slices left;", 5, 17);
        faulty("slices 1 left;", 1, 9);
        faulty("pass left;", 1, 5);
    }

    private static void tooMany() {
        promise = 8;
        String pass23 = "pass 1;".repeat(23);
        sound(pass23 + "slices 1;");
        faulty(pass23 + "slices 1;pass 1;", 6, 170);
        faulty(pass23 + "slices 1;slices 1;", 4, 170);
        faulty(pass23 + "slices 1;left", 1, 170);
        faulty(pass23 + "slices 1;eats", 6, 170);
        sound(pass23 + "slices 1; \n");
    }

    private static void sums() {
        promise = 10;
        worth("2+3*4-5", 9);
        worth("20-5-4", 11);
        worth("100/7/2", 7);
        worth("7/2*2", 6);
        worth("2*7/3", 4);
        worth("-7/2", -3);
        worth("7/-2", -3);
        worth("-7/-2", 3);
        worth("5/0", 0);
        worth("5/0+3", 3);
        worth("9999*9999", 1000000);
        worth("9999*9999/1000", 1000);
        worth("-9999*9999", -1000000);
        worth("9999*9999+1-1", 999999);
        worth("-(9999*9999)-5+5", -999995);
        worth("9999*9999*-9999", -1000000);
        worth("--5", 5);
        worth("-2*-3", 6);
        worth("1--1", 2);
        worth("(1+2)*(3+4)", 21);
        worth("if 1=2?3:4 end*2", 8);
        worth("if 1=1?3:4 end*2", 6);
        worth("1+if 2>1?if 1>2?5:6 end:7 end+1", 8);
    }

    private static void asks() {
        promise = 10;
        String[] yes = {"1<2", "2<=2", "3>2", "2>=2", "2=2", "1#2", "not 1=2", "not not 1=1", "1=1 or 1=2", "1=2 or 1=1",
            "1=1 and 2=2", "1=1 or 1=1 and 1=2", "1=2 and 1=2 or 1=1", "not 1=2 and 1=1", "1=1 or not 1=1", "1+1=2*1", "-1<1"};
        String[] no = {"2<2", "3<=2", "2>2", "1>=2", "1=2", "2#2", "not 1=1", "1=2 or 2=1", "1=1 and 1=2", "1=2 and 1=1",
            "not 1=1 and 1=2", "not 1=1 or 1=2", "not not 1=2"};
        for (String ask : yes) {
            due(ask, ruled("slices if " + ask + "?7:8 end;").slices(0, 0), 7);
        }
        for (String ask : no) {
            due(ask, ruled("slices if " + ask + "?7:8 end;").slices(0, 0), 8);
        }
    }

    private static void by() {
        promise = 9;
        CakeCalendar x = ruled("slices 5;");
        due("slices", x.slices(0, 3), 5);
        told(x, "eats 2;");
        due("by(2)", x.by(2), false);
        due("by(-2)", x.by(-2), false);
        due("THE TEXT", x.about(5), 0);
        due("by(1)", x.by(1), true);
        due("slices without a law", x.slices(0, 3), 12);
        due("THE TEXT", x.about(5), 1);
        due("by(NONE)", x.by(-1), true);
        due("THE TEXT", x.about(5), -1);
        x.sister(4);
        x.seat(0, 0);
        due("eats without a law", x.sisterOf(0, 2), 4);
        due("STEPS", x.about(6), 1);
        due("by(MAX)", x.by(Integer.MAX_VALUE), false);
    }

    private static void slices() {
        promise = 10;
        CakeCalendar x = ruled("slices day*10+table*3+dawn;");
        due("1 at least", x.slices(0, 0), 1);
        due("slices", x.slices(1, 0), 3);
        due("slices", x.slices(1, 2), 23);
        due("60 at most", x.slices(0, 999), 60);
        due("LEFT stays as without laws", x.of(0, 1), 12);
        x.pass(5);
        due("at this DAWN", x.slices(1, 2), 28);
        due("DAY 1000", x.slices(0, 1000), -1);
        due("DAY -1", x.slices(0, -1), -1);
        due("TABLE 2", x.slices(2, 0), -1);
        due("TABLE -1", x.slices(-1, 0), -1);
        due("below 1", ruled("slices -5;").slices(0, 0), 1);
        // The cake is baked as of the DAWN that comes.
        CakeCalendar y = ruled("slices dawn*10+day+table*5;eats 9;");
        y.sister(0);
        y.sister(0);
        y.seat(0, 1);
        y.seat(1, 1);
        due("12 slices", y.pass(1), 12);
        due("9 and 9 of 26", y.pass(1), 18);
        due("LEFT", y.of(1, 1), 8);
        due("DAY", y.of(1, 0), 1);
    }

    private static void eats() {
        promise = 14;
        CakeCalendar x = ruled("eats sister*2+appetite+left/6+day*3+table+dawn;");
        x.sister(1);
        x.sister(0);
        x.sister(9);
        x.seat(0, 0);
        x.seat(1, 0);
        x.seat(2, 1);
        // At DAWN 1: sister 0: 1+12/6+1 = 4; sister 1: 2+0+8/6+1 = 4; at table 1 sister 2 wants 17, that is 9.
        due("pass(1)", x.pass(1), 17);
        due("LEFT", x.of(0, 1), 4);
        due("LEFT", x.of(1, 1), 3);
        due("as much as is LEFT", x.sisterOf(2, 2), 3);
        CakeCalendar y = ruled("eats 0-3;");
        y.sister(9);
        y.seat(0, 0);
        due("0 at least", y.pass(3), 0);
    }

    private static void seat() {
        promise = 11;
        CakeCalendar x = new CakeCalendar();
        due("no such SISTER", x.seat(0, 0), false);
        x.sister(1);
        due("it is her SEAT", x.seat(0, 2), false);
        due("seat(0, 1)", x.seat(0, 1), true);
        due("seat(0, 1) again", x.seat(0, 1), false);
        due("seat(0, 3)", x.seat(0, 3), false);
        due("seat(0, -1)", x.seat(0, -1), false);
        due("seat(-1, 0)", x.seat(-1, 0), false);
        due("seat(1, 0)", x.seat(1, 0), false);
        due("SEAT", x.sisterOf(0, 1), 1);
        due("STEPS", x.about(6), 1);
        due("seat(0, 2)", x.seat(0, 2), true);
        due("STEPS", x.about(6), 2);
    }

    private static void hideAndGive() {
        promise = 12;
        CakeCalendar x = new CakeCalendar();
        due("hide(0, 0)", x.hide(0, 0), -1);
        due("hide(0, 10)", x.hide(0, 10), -1);
        due("hide(2, 1)", x.hide(2, 1), -1);
        due("hide(-1, 1)", x.hide(-1, 1), -1);
        due("hide(1, 9)", x.hide(1, 9), 3);
        due("hide(1, 4)", x.hide(1, 4), -1);
        due("hide(1, 3)", x.hide(1, 3), 0);
        due("HIDDEN", x.of(1, 2), 12);
        due("the other TABLE", x.of(0, 1), 12);
        x.pass(1);
        due("a cake that is HIDDEN is not eaten up", x.of(1, 0), 0);
        promise = 13;
        due("give(1, 0)", x.give(1, 0), -1);
        due("give(1, 10)", x.give(1, 10), -1);
        due("give(0, 1)", x.give(0, 1), -1);
        due("give(2, 1)", x.give(2, 1), -1);
        due("give(1, 9)", x.give(1, 9), 9);
        due("give(1, 4)", x.give(1, 4), -1);
        due("give(1, 3)", x.give(1, 3), 12);
        due("STEPS", x.about(6), 5);
        due("LEFT", x.of(1, 1), 12);
        due("HIDDEN", x.of(1, 2), 0);
    }

    private static void pass() {
        promise = 14;
        CakeCalendar x = new CakeCalendar();
        due("pass(0)", x.pass(0), -1);
        due("pass(100)", x.pass(100), -1);
        due("pass(-1)", x.pass(-1), -1);
        x.sister(7);
        x.sister(6);
        x.seat(0, 0);
        x.seat(1, 0);
        due("as much as is LEFT", x.pass(1), 12);
        due("DAY is not one more yet", x.of(0, 0), 0);
        due("a new cake", x.pass(1), 12);
        due("DAY", x.of(0, 0), 1);
        due("nothing is eaten at TABLE 1", x.of(1, 1), 12);
        due("pass(99)", x.pass(99), 99 * 12);
        due("30 STEPS at most", x.about(6), 30);
        for (int i = 0; i < 9; i++) {
            x.pass(99);
        }
        due("DAWN", x.about(1), 992);
        due("beyond 999", x.pass(8), -1);
        due("DAWN", x.about(1), 992);
        due("to 999", x.pass(7), 84);
        due("beyond 999", x.pass(1), -1);
        due("DAY", x.of(0, 0), 998);
        // Foresight goes on behind DAWN 999, but no DAY comes behind 999.
        due("DAY 999", x.comes(0, 999, true), 1);
        due("apart(60)", x.apart(60), 999);
        x.mice(5);
        due("odds", x.odds(0, 999, 15, 0), 1);
        due("saint", x.saint(0, 999, 1, -1), 0);
        due("saint", x.saint(0, 999, 2, 0), -1);
    }

    private static void mouseDraws() {
        promise = 14;
        CakeCalendar x = new CakeCalendar();
        x.mice(2);
        // X 11: 1 is below 2, a slice at TABLE 0; X 1982: 2 is not.
        due("pass(1)", x.pass(1), 1);
        due("LEFT", x.of(0, 1), 11);
        due("LEFT", x.of(1, 1), 12);
        due("X", x.about(3), 11986);
        x.mice(10);
        due("mice at both", x.pass(11), 22);
        due("no slice is LEFT", x.of(0, 1), 0);
        due("one is", x.of(1, 1), 1);
        due("a new cake, and the mice", x.pass(1), 2);
        due("LEFT", x.of(0, 1), 11);
        due("LEFT", x.of(1, 1), 0);
        CakeCalendar y = new CakeCalendar();
        y.mice(10);
        y.hide(0, 9);
        y.hide(0, 3);
        due("mice don't find what is HIDDEN", y.pass(3), 3);
        due("HIDDEN", y.of(0, 2), 12);
        y.mice(0);
        y.seed(3);
        y.pass(1);
        due("X is drawn without mice too", y.about(3), ((20 * 173 + 79) % 30089 * 173 + 79) % 30089);
    }

    private static void played() {
        promise = 15;
        CakeCalendar x = new CakeCalendar();
        due("played(0) of none", x.played(0), -2);
        due("played(-1)", x.played(-1), -2);
        told(x, "seat 0 at 1; slices 3; hide 4 at 1; pass 2; give 4 at 1; eats 1; pass 1;");
        due("no SISTER yet", x.played(0), 0);
        due("STEPS", x.about(6), 0);
        x.sister(4);
        due("played(0)", x.played(0), -1);
        due("one STEP for each DAWN", x.about(6), 6);
        due("the laws of a TEXT that doesn't rule", x.of(1, 1), 0);
        due("her SEAT already", x.played(0), 0);
        x.seat(0, 0);
        due("hide: nothing is LEFT", x.played(0), 2);
        due("what was done stays", x.sisterOf(0, 1), 1);
        due("played(1)", x.played(1), -2);
        due("played(4)", x.played(4), -2);
        told(x, "give 1 at 0;");
        due("nothing is HIDDEN", x.played(1), 0);
        told(x, "pass 99;");
        for (int i = 0; i < 10; i++) {
            due("pass 99", x.played(2), -1);
        }
        due("beyond 999", x.played(2), 0);
        due("DAWN", x.about(1), 993);
        told(x, "");
        due("an empty TEXT", x.played(3), -1);
        CakeCalendar y = new CakeCalendar();
        told(y, "hide 9 at 0;hide 3 at 0;pass 1;");
        due("all that is LEFT can be HIDDEN", y.played(0), -1);
        due("DAWN", y.about(1), 1);
    }

    private static void undo() {
        promise = 16;
        CakeCalendar x = new CakeCalendar();
        due("undo() of none", x.undo(), -1);
        x.hide(0, 5);
        x.sister(8);
        x.seat(0, 0);
        x.mice(10);
        x.pass(2);
        x.seed(77);
        x.sister(3);
        due("undo()", x.undo(), 3);
        due("DAWN", x.about(1), 1);
        due("X", x.about(3), 11986);
        due("LEFT", x.of(0, 1), 0);
        due("undo()", x.undo(), 2);
        due("X", x.about(3), 11);
        due("LEFT", x.of(0, 1), 7);
        due("MICE stay", x.about(2), 10);
        due("SISTERS stay", x.about(0), 2);
        due("undo()", x.undo(), 1);
        due("SEAT", x.sisterOf(0, 1), 2);
        due("undo()", x.undo(), 0);
        due("HIDDEN", x.of(0, 2), 0);
        due("LEFT", x.of(0, 1), 12);
        due("undo()", x.undo(), -1);
        due("SISTERS stay", x.about(0), 2);
        x.pass(31);
        due("STEPS", x.about(6), 30);
        for (int i = 29; i >= 0; i--) {
            due("undo()", x.undo(), i);
        }
        due("the 31st", x.undo(), -1);
        due("DAWN", x.about(1), 1);
        due("a call that can't be is no STEP", x.hide(0, 10), -1);
        due("STEPS", x.about(6), 0);
    }

    private static void of() {
        promise = 17;
        CakeCalendar x = new CakeCalendar();
        x.sister(1);
        x.sister(2);
        x.sister(3);
        x.seat(0, 1);
        x.seat(2, 1);
        x.hide(1, 2);
        x.pass(3);
        x.undo();
        int[] due = {0, 2, 2, 5};
        for (int i = 0; i < 4; i++) {
            due("of(1, " + i + ")", x.of(1, i), due[i]);
        }
        due("of(1, 4)", x.of(1, 4), -1);
        due("of(1, -1)", x.of(1, -1), -1);
        due("of(2, 0)", x.of(2, 0), -1);
        due("of(-1, 0)", x.of(-1, 0), -1);
        due("of(0, 3)", x.of(0, 3), 0);
    }

    private static void sisterOf() {
        promise = 18;
        CakeCalendar x = ruled("eats dawn+day*2+left-7+table;");
        due("sisterOf(0, 0)", x.sisterOf(0, 0), -1);
        x.sister(6);
        due("APPETITE", x.sisterOf(0, 0), 6);
        due("she fasts", x.sisterOf(0, 2), 0);
        x.seat(0, 1);
        due("SEAT", x.sisterOf(0, 1), 1);
        due("now: 0+0+12-7+1", x.sisterOf(0, 2), 6);
        due("nothing is eaten", x.of(1, 1), 12);
        due("at DAWN 1", x.pass(1), 7);
        due("now: 1+0+5-7+1", x.sisterOf(0, 2), 0);
        due("sisterOf(0, 3)", x.sisterOf(0, 3), -1);
        due("sisterOf(0, -1)", x.sisterOf(0, -1), -1);
        due("sisterOf(1, 0)", x.sisterOf(1, 0), -1);
        due("sisterOf(-1, 0)", x.sisterOf(-1, 0), -1);
    }

    private static void comes() {
        promise = 19;
        CakeCalendar x = new CakeCalendar();
        due("now", x.comes(0, 0, false), 0);
        due("none sits there: mice alone", x.comes(0, 1, false), 13);
        due("never", x.comes(0, 1, true), -1);
        due("60 at most: mice alone, 12 a cake", x.comes(0, 5, false), -1);
        due("mice alone", x.comes(0, 4, false), 49);
        x.sister(1);
        x.seat(0, 1);
        due("LATEST", x.comes(1, 1, true), 13);
        due("SOONEST", x.comes(1, 1, false), 7);
        due("LATEST", x.comes(1, 4, true), 49);
        due("LATEST", x.comes(1, 5, true), -1);
        due("SOONEST", x.comes(1, 9, false), 55);
        due("SOONEST", x.comes(1, 10, false), -1);
        due("DAY 1000", x.comes(1, 1000, false), -1);
        due("DAY -1", x.comes(1, -1, false), -1);
        due("TABLE 2", x.comes(2, 0, false), -1);
        due("nothing is done", x.about(1), 0);
        x.hide(1, 1);
        due("a cake with HIDDEN", x.comes(1, 1, false), -1);
        x.give(1, 1);
        x.pass(13);
        due("a DAY that has gone", x.comes(1, 0, true), 0);
        // A cake of one slice comes at each DAWN: DAY 60 behind 60 DAWNS, DAY 61 not within.
        CakeCalendar y = ruled("slices 1;eats 9;");
        y.sister(0);
        y.sister(0);
        y.seat(0, 0);
        y.seat(1, 0);
        y.pass(1);
        due("at 60", y.comes(0, 60, true), 60);
        due("at 61", y.comes(0, 61, true), -1);
    }

    private static void odds() {
        promise = 20;
        CakeCalendar x = new CakeCalendar();
        due("0 DAWNS, DAY 0", x.odds(0, 0, 0, 0), 1);
        due("0 DAWNS, DAY 0", x.odds(0, 0, 0, 1), 1);
        due("0 DAWNS, DAY 1", x.odds(0, 1, 0, 0), 0);
        due("0 DAWNS, DAY 1", x.odds(0, 1, 0, 1), 1);
        x.sister(9);
        x.sister(2);
        x.seat(0, 0);
        x.seat(1, 0);
        x.mice(3);
        // 11 of 12 are eaten; the mice take the last one with 3 of 10.
        due("DAY 1 by 2", x.odds(0, 1, 2, 0), 3);
        due("DAY 1 by 2", x.odds(0, 1, 2, 1), 10);
        due("DAY 1 by 3", x.odds(0, 1, 3, 0), 1);
        // DAY 2 by 4: both cakes by one DAWN each; by 3 never.
        due("DAY 2 by 3", x.odds(0, 2, 3, 0), 9);
        due("DAY 2 by 3", x.odds(0, 2, 3, 1), 100);
        due("DAY 2 by 4: 51 of 100", x.odds(0, 2, 4, 0), 51);
        due("DAY 2 by 4: 51 of 100", x.odds(0, 2, 4, 1), 100);
        x.mice(4);
        due("lowest terms", x.odds(0, 1, 2, 0), 2);
        due("lowest terms", x.odds(0, 1, 2, 1), 5);
        x.mice(10);
        due("sure", x.odds(0, 1, 2, 0), 1);
        due("sure", x.odds(0, 1, 2, 1), 1);
        x.mice(0);
        due("never", x.odds(0, 1, 2, 0), 0);
        due("never", x.odds(0, 1, 2, 1), 1);
        due("n 16", x.odds(0, 0, 16, 0), -1);
        due("n -1", x.odds(0, 0, -1, 0), -1);
        due("what 2", x.odds(0, 0, 1, 2), -1);
        due("what -1", x.odds(0, 0, 1, -1), -1);
        due("TABLE 2", x.odds(2, 0, 1, 0), -1);
        due("DAY 1000", x.odds(0, 1000, 1, 0), -1);
        due("DAY -1", x.odds(0, -1, 1, 0), -1);
        // Mice alone: all 12 slices within 14 draws, then a DAWN: (1/2)^14 * (1 + 14 + 91).
        CakeCalendar y = new CakeCalendar();
        y.mice(5);
        due("12 of 14 draws", y.odds(1, 1, 15, 0), 53);
        due("12 of 14 draws", y.odds(1, 1, 15, 1), 8192);
        y.mice(7);
        long upper = 0;
        for (int set = 0; set < 1 << 14; set++) {
            int k = Integer.bitCount(set);
            upper += k < 12 ? 0 : Math.round(Math.pow(7, k) * Math.pow(3, 14 - k));
        }
        due("7 of 10", y.odds(1, 1, 15, 0), upper / gcd(upper, 100000000000000L));
        due("7 of 10", y.odds(1, 1, 15, 1), 100000000000000L / gcd(upper, 100000000000000L));
        due("nothing is drawn", y.about(3), 11);
        // 1+2+3+4 are eaten by 4 DAWNS; the mice must take 2 with 4 draws: 11 of 16.
        CakeCalendar z = ruled("eats dawn;");
        z.sister(0);
        z.seat(0, 0);
        z.mice(5);
        due("dawn goes on", z.odds(0, 1, 5, 0), 11);
        due("dawn goes on", z.odds(0, 1, 5, 1), 16);
    }

    private static long gcd(long a, long b) {
        return b == 0 ? a : gcd(b, a % b);
    }

    private static void apart() {
        promise = 21;
        CakeCalendar x = new CakeCalendar();
        x.sister(4);
        x.sister(3);
        x.seat(0, 0);
        x.seat(1, 1);
        due("apart(0)", x.apart(0), 0);
        due("DAY 1 at 4 and at 5", x.apart(4), 1);
        due("both", x.apart(5), 0);
        due("20 DAWNS at 3 a cake, 4 a cake", x.apart(60), 19 - 14);
        x.mice(10);
        due("without mice", x.apart(4), 1);
        due("apart(61)", x.apart(61), -1000);
        due("apart(-1)", x.apart(-1), -1000);
        x.seat(0, 1);
        x.seat(1, 0);
        due("behind", x.apart(4), -1);
        due("none sits at TABLE 1", sitAlone().apart(60), 19);
    }

    private static CakeCalendar sitAlone() {
        CakeCalendar x = new CakeCalendar();
        x.sister(4);
        x.seat(0, 0);
        return x;
    }

    private static void flour() {
        promise = 22;
        CakeCalendar x = ruled("slices day+table+dawn;");
        due("1 and 1 and 2", x.flour(0, 0, 2), 4);
        due("1 and 2 and 3", x.flour(1, 0, 2), 6);
        due("one DAY", x.flour(0, 7, 7), 7);
        due("all", x.flour(0, 0, 999), 1 + 60 * 59 / 2 + 940 * 60);
        x.pass(3);
        due("as at this DAWN", x.flour(0, 0, 2), 12);
        due("below", x.flour(0, 2, 1), -1);
        due("1000", x.flour(0, 2, 1000), -1);
        due("-1", x.flour(0, -1, 1), -1);
        due("TABLE 2", x.flour(2, 0, 0), -1);
        due("TABLE -1", x.flour(-1, 0, 0), -1);
    }

    private static void saint() {
        promise = 23;
        CakeCalendar x = new CakeCalendar();
        for (int a : new int[] {1, 2, 3, 3, 6, 0}) {
            x.sister(a);
        }
        // The cake of 12 must be gone by 1 DAWN: 1+2+3+6 or 3+3+6 or more; three sisters at least.
        due("DAY 1 after 2", x.saint(0, 1, 2, -1), 3);
        due("the lowest SEATS: 0 first", x.saint(0, 1, 2, 0), 2);
        due("sister 1", x.saint(0, 1, 2, 1), 2);
        due("sister 2", x.saint(0, 1, 2, 2), 0);
        due("sister 3", x.saint(0, 1, 2, 3), 0);
        due("sister 4", x.saint(0, 1, 2, 4), 0);
        due("sister 5", x.saint(0, 1, 2, 5), 2);
        due("nothing is done", x.of(0, 3), 0);
        // By 2 DAWNS, not by one: 6 at least, below 12: one sister.
        due("DAY 1 after 3", x.saint(1, 1, 3, -1), 1);
        due("sister 4 at TABLE 1", x.saint(1, 1, 3, 4), 1);
        due("DAY 1 after 1: it can't be", x.saint(0, 1, 1, -1), -1);
        due("DAY 0 is there sooner", x.saint(0, 0, 3, -1), -1);
        due("DAY 5 after 3", x.saint(0, 5, 3, -1), -1);
        due("n 0", x.saint(0, 1, 0, -1), -1);
        due("n 31", x.saint(0, 1, 31, -1), -1);
        due("n 30", x.saint(0, 1, 30, -1), -1);
        due("TABLE 2", x.saint(2, 1, 3, -1), -1);
        due("DAY 1000", x.saint(0, 1000, 3, -1), -1);
        due("SISTER 6", x.saint(0, 1, 2, 6), -1);
        due("SISTER -2", x.saint(0, 1, 2, -2), -1);
        // All sit at TABLE 0: 15 slices a DAWN. That the cake lasts two DAWNS, one must leave, to the lowest other SEAT.
        for (int i = 0; i < 6; i++) {
            x.seat(i, 0);
        }
        due("as it is", x.saint(0, 1, 2, -1), 0);
        due("DAY 1 after 3", x.saint(0, 1, 3, -1), 1);
        due("of like ones the lowest SEAT of SISTER 0", x.saint(0, 1, 3, 4), 1);
        due("who stays", x.saint(0, 1, 3, 0), 0);
        // Of like ones: who leaves TABLE 1 goes to 0, and so SISTER 0 goes, not 1.
        CakeCalendar y = new CakeCalendar();
        y.sister(6);
        y.sister(6);
        y.seat(0, 1);
        y.seat(1, 1);
        due("one leaves", y.saint(1, 1, 3, -1), 1);
        due("SISTER 0 to SEAT 0", y.saint(1, 1, 3, 0), 0);
        due("SISTER 1 stays", y.saint(1, 1, 3, 1), 1);
        y.mice(10);
        due("without mice", y.saint(1, 1, 3, 0), 0);
        // At TABLE 0 SISTER 0 stays at 0, as that is lower.
        y.seat(0, 0);
        y.seat(1, 0);
        due("SISTER 0 stays", y.saint(0, 1, 3, 0), 0);
        due("SISTER 1 to SEAT 1", y.saint(0, 1, 3, 1), 1);
        // A cake of 12 and one of 17, a slice a DAWN.
        CakeCalendar last = ruled("slices 17;");
        last.sister(1);
        due("DAY 2 after 30", last.saint(1, 2, 30, -1), 1);
        due("SISTER 0", last.saint(1, 2, 30, 0), 1);
        due("DAY 2 after 29", last.saint(1, 2, 29, -1), -1);
        CakeCalendar z = new CakeCalendar();
        z.mice(10);
        z.pass(12);
        due("no SISTERS, a cake eaten up by mice", z.saint(0, 1, 1, -1), 0);
        due("no SISTERS", z.saint(0, 1, 1, 0), -1);
    }

    private static void seenAndWho() {
        promise = 24;
        CakeCalendar x = new CakeCalendar();
        due("seen(61)", x.seen(61), -2);
        due("seen(-2)", x.seen(-2), -2);
        for (int i = 1; i <= 8; i++) {
            due("seen", x.seen(i == 1 ? 60 : 0), i);
        }
        due("the 9th", x.seen(0), -2);
        due("SEEN", x.about(7), 8);
        due("nothing any more", x.seen(-1), 0);
        due("SEEN", x.about(7), 0);
        due("no STEP", x.about(6), 0);
        promise = 25;
        due("the empty set", x.who(0, 0, -1), 1);
        due("the empty set", x.who(0, 0, 0), 0);
        x.sister(2);
        x.sister(3);
        x.sister(5);
        x.seat(0, 1);
        due("all sets", x.who(1, 999, -1), 8);
        due("the last", x.who(1, 999, 7), 7);
        due("no such", x.who(1, 999, 8), -1);
        x.hide(0, 3);
        x.seen(7);
        due("5 of 12, nothing HIDDEN", x.who(0, 4, -1), 2);
        due("2 and 3", x.who(0, 4, 0), 3);
        due("5", x.who(0, 4, 1), 4);
        due("-2", x.who(0, 4, -2), -1);
        due("min", x.who(0, 4, Integer.MIN_VALUE), -1);
        x.seen(2);
        x.seen(0);
        x.seen(0);
        due("a new cake isn't baked", x.who(0, 4, -1), 2);
        x.seen(12);
        due("a new cake isn't baked", x.who(0, 4, -1), 0);
        due("none such", x.who(0, 4, 0), -1);
        due("TABLE 2", x.who(2, 4, -1), -1);
        due("DAY 1000", x.who(0, 1000, -1), -1);
        due("DAY -1", x.who(0, -1, -1), -1);
        namesOfWho();
    }

    /** At the first DAWN of the cake, where it is baked too, dawn is DAWN as now and one more; then one more each. */
    private static void namesOfWho() {
        CakeCalendar x = ruled("eats dawn;");
        x.sister(0);
        x.seen(11);
        due("dawn is 1 at the first", x.who(0, 0, 0), 1);
        x.seen(9);
        due("2 at the second", x.who(0, 0, 0), 1);
        x.seen(6);
        due("3 at the third", x.who(0, 0, -1), 1);
        x.seen(3);
        due("not 3 at the fourth", x.who(0, 0, -1), 0);
        CakeCalendar y = ruled("slices 20+dawn+day+table;eats dawn+sister+left/20;");
        y.sister(9);
        y.sister(9);
        y.pass(2);
        // A cake of 20+3+3+1 = 27: SISTER 1 eats 3+1+1 = 5 of it, then 4+1+1 = 6 of 22, then 5+1+0 of 16.
        y.seen(22);
        y.seen(16);
        y.seen(10);
        due("names as they would be", y.who(1, 3, -1), 1);
        due("SISTER 1", y.who(1, 3, 0), 2);
        due("a larger cake", y.who(1, 4, -1), 0);
        due("DAWN stays", y.about(1), 2);
        // What a real cake leaves, from its first DAWN on, is what WHO says ahead of that DAWN.
        CakeCalendar z = ruled("slices 9+dawn*3-day;eats 1+dawn/2+sister;");
        z.sister(1);
        z.sister(1);
        z.seat(1, 0);
        while (z.about(1) < 99 && (z.of(0, 0) < 1 || z.of(0, 1) > 0)) {
            z.pass(1);
        }
        due("eaten up", z.of(0, 1), 0);
        int day = z.of(0, 0) + 1;
        int[] left = new int[3];
        for (int i = 0; i < left.length; i++) {
            z.pass(1);
            left[i] = z.of(0, 1);
        }
        due("a cake goes on", left[2] > 0, true);
        for (int i = 0; i < left.length; i++) {
            z.undo();
            z.seen(left[i]);
        }
        due("the real one fits", z.who(0, day, -1), 1);
        due("SISTER 1 sat there", z.who(0, day, 0), 2);
        // At DAWN 999 the first DAWN of the cake would be 1000.
        CakeCalendar last = ruled("eats dawn-998;");
        last.sister(0);
        for (int i = 0; i < 10; i++) {
            last.pass(99);
        }
        last.pass(9);
        last.seen(10);
        due("DAWN", last.about(1), 999);
        due("dawn is 1000", last.who(0, 0, 0), 1);
    }

    private static void imageAndBack() {
        promise = 26;
        CakeCalendar x = new CakeCalendar();
        x.sister(3);
        x.seat(0, 0);
        x.mice(4);
        x.hide(1, 2);
        x.seed(100);
        told(x, "slices 7;");
        x.by(0);
        x.seen(4);
        due("pass(3)", x.pass(3) >= 9, true);
        int[] all = all(x);
        due("image()", x.image(), 3);
        promise = 27;
        for (int round = 0; round < 2; round++) {
            x.sister(5);
            x.seat(1, 1);
            x.seat(0, 1);
            x.mice(9);
            x.give(1, 1);
            told(x, "slices 9;eats 1;");
            x.by(1);
            x.seen(-1);
            x.seen(1);
            x.seen(2);
            x.pass(40);
            told(x, "pass;");
            x.feed(0, 0, 0, 0, 0);
            due("back()", x.back(), 3);
            due("all is so again", Arrays.equals(all(x), all), true);
            due("the latest FAULT stays", x.fault(0), 1);
            due("its place stays", x.fault(1), 4);
            due("the tape stays", x.about(8), 20);
            due("slices by the old law", x.slices(0, 1), 7);
            due("no TEXT 1", x.by(1), false);
            due("STEPS are those of the image", x.undo(), 4);
            due("DAWN", x.about(1), 2);
            due("undo()", x.undo(), 3);
            due("undo()", x.undo(), 2);
            due("undo()", x.undo(), 1);
            due("LEFT", x.of(1, 1), 12);
            due("undo()", x.undo(), 0);
            due("SEAT", x.sisterOf(0, 1), 2);
        }
        due("back()", x.back(), 3);
        due("text in the place of the one that is gone", told(x, "slices 8;"), 1);
        x.by(1);
        due("slices", x.slices(0, 0), 8);
        due("image() with it", x.image(), 3);
        x.by(0);
        x.back();
        due("THE TEXT", x.about(5), 1);
        due("slices", x.slices(0, 0), 8);
    }

    private static int[] all(CakeCalendar x) {
        int[] all = new int[20];
        for (int i = 0; i < 8; i++) {
            all[i] = x.about(i);
        }
        for (int i = 0; i < 4; i++) {
            all[8 + i] = x.of(0, i);
            all[12 + i] = x.of(1, i);
        }
        all[16] = x.sisterOf(0, 0);
        all[17] = x.sisterOf(0, 1);
        all[18] = x.sisterOf(1, 0);
        all[19] = x.who(0, 0, -1);
        return all;
    }

    private static void about() {
        promise = 28;
        CakeCalendar x = new CakeCalendar();
        x.sister(1);
        x.sister(1);
        x.pass(3);
        x.mice(7);
        x.seed(1);
        told(x, "");
        told(x, "");
        told(x, "");
        x.by(2);
        x.seen(1);
        x.feed(1, 2, 3, 4, 5);
        int[] due = {2, 3, 7, 14, 3, 2, 3, 1, 20};
        for (int i = 0; i < due.length; i++) {
            due("about(" + i + ")", x.about(i), due[i]);
        }
        due("about(9)", x.about(9), -2);
        due("about(-1)", x.about(-1), -2);
        due("about(min)", x.about(Integer.MIN_VALUE), -2);
    }
}
