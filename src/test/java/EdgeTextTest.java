/** Each sentence of the Terms' second part (texts, tokens, sums, FAULTS, playing) that names an edge. */
public final class EdgeTextTest extends Check {
    private static final String[] NAMES_OF_BOTH = {"day", "table", "dawn"};
    private static final String[] NAMES_OF_EATS = {"sister", "appetite", "left"};

    public static void main(String[] args) {
        upTo300Bytes();
        blanks();
        letters();
        digits();
        numbers();
        longestSign();
        clauses24();
        eachOnce();
        orders();
        sums();
        ones();
        asks();
        names();
        fromTheLeft();
        cutsTowards0();
        by0();
        above1000000();
        justTheChosenSum();
        firstFault();
        firstByte();
        endAtTheLength();
        ofOneTheLeast();
        fault1();
        fault2();
        fault3AtTheNinth();
        fault3Open();
        fault3Closed();
        fault4();
        nothingOfAFaultyText();
        fault5();
        fault6();
        theTextRules();
        playedInOrder();
        oneThatCantBe();
        finish("edges of the texts");
    }

    private static void upTo300Bytes() {
        says(0, "TEXTS 0 .. 3: of up to 300 bytes.");
        CakeCalendar x = new CakeCalendar();
        due("the last 7 of 300 bytes", told(x, " ".repeat(293) + "pass 1;"), 0);
        due("played(0)", x.played(0), -1);
        due("DAWN", x.about(1), 1);
        due("294 digits", told(x, "pass " + "0".repeat(293) + "1;"), 1);
        due("played(1)", x.played(1), -1);
        due("DAWN", x.about(1), 2);
        due("290 steps of a SUM", told(x, "slices 1" + "+1".repeat(95) + "-1".repeat(50) + ";"), 2);
        x.by(2);
        due("1+95-50", x.slices(0, 0), 46);
        due("TEXT 3, of no byte", told(x, ""), 3);
        due("no TEXT 4", told(x, ""), -1);
        due("by(3)", x.by(3), true);
        due("by(4)", x.by(4), false);
        faulty("a".repeat(300), 1, 0);
        faulty(" ".repeat(299) + "!", 1, 299);
        faulty(" ".repeat(294) + "pass 1", 1, 300);
        faulty("pass " + "9".repeat(295), 2, 5);
        faulty(" ".repeat(296) + "pass", 1, 300);
        sound(" ".repeat(300));
    }

    private static void blanks() {
        says(0, "TOKENS, blanks (32, 10) aside");
        sound(" pass\n1 \n\n ; ");
        sound("\n");
        for (int b = 0; b < 256; b++) {
            if (b != 32 && b != 10) {
                // No CLAUSE starts with one byte, so whatever is no blank can't stand there.
                faulty("pass 1;" + (char) b, 1, 7);
            }
        }
        for (int b : new int[] {0, 9, 11, 13, 31, 33, 127, 160, 255}) {
            faulty("pass" + (char) b + "1;", 1, 4);
        }
        faulty("pa ss 1;", 1, 0);
        faulty("pa\nss 1;", 1, 0);
        faulty("pass 1 2;", 1, 7);
    }

    private static void letters() {
        says(0, "letters a .. z, A .. Z one behind the other (one TOKEN)");
        for (char c : new char[] {'a', 'z', 'A', 'Z', 'm', 'M'}) {
            faulty("pass" + c + " 1;", 1, 0);
            faulty("pass 1" + c + ";", 1, 6);
        }
        for (char c : new char[] {'@', '[', '`', '{', '_'}) {
            faulty("pass" + c + " 1;", 1, 4);
        }
        sound("pass 1;pass 2;");
        faulty("Pass 1;", 1, 0);
        faulty("PASS 1;", 1, 0);
        faulty("passpass 1;", 1, 0);
        faulty("slices DAY;", 1, 7);
        faulty("slices da y;", 1, 7);
        sound("seat0at1;");
        sound("slices if day=day?day:day end;");
        faulty("slices ifday=day?day:day end;", 1, 7);
    }

    private static void digits() {
        says(0, "digits likewise");
        sound("pass 90;");
        sound("pass 09;");
        faulty("pass 9 0;", 1, 7);
        // The bytes beside 0 and 9 are / and : .
        faulty("pass 9/;", 1, 6);
        faulty("pass 9:;", 1, 6);
        worth("1023+4567", 5590);
        worth("8901", 8901);
    }

    private static void numbers() {
        says(0, "(NUMBERS, 0 .. 9999)");
        worth("0", 0);
        worth("9999", 9999);
        faulty("slices 10000;", 2, 7);
        faulty("slices 65536;", 2, 7);
        faulty("slices 4294967296;", 2, 7);
        faulty("slices 18446744073709551617;", 2, 7);
        worth("00000000009999", 9999);
        faulty("slices 000000000010000;", 2, 7);
        faulty("eats if 10000<1?1:2 end;", 2, 8);
    }

    private static void longestSign() {
        says(0, "<= >= < > = # + - * / ( ) ; ? : (the longest)");
        sound("slices if 1<=2?1:2 end;");
        sound("slices if 1>=2?1:2 end;");
        faulty("slices if 1< =2?1:2 end;", 1, 13);
        faulty("slices if 1> =2?1:2 end;", 1, 13);
        faulty("slices if 1<==2?1:2 end;", 1, 13);
        faulty("slices if 1>==2?1:2 end;", 1, 13);
        faulty("slices if 1=<2?1:2 end;", 1, 12);
        faulty("slices if 1=>2?1:2 end;", 1, 12);
        faulty("slices if 1<>2?1:2 end;", 1, 12);
        faulty("slices if 1##2?1:2 end;", 1, 12);
        faulty("slices if 1==2?1:2 end;", 1, 12);
        due("<=", ruled("slices if 2<=2?7:8 end;").slices(0, 0), 7);
        due(">=", ruled("slices if 2>=2?7:8 end;").slices(0, 0), 7);
        // A sign that ends the tape, where = was cut off behind it too.
        faulty("slices if 1<", 1, 12);
        faulty("slices if 1<=", 1, 13);
        for (String sign : new String[] {"<", ">"}) {
            CakeCalendar x = new CakeCalendar();
            tape(x, "slices if 1" + sign + "=2?1:2 end;");
            x.end(12);
            due("text()", x.text(), -1);
            due("FAULT", x.fault(0), 1);
            due("place", x.fault(1), 12);
        }
    }

    private static void clauses24() {
        says(0, "{CLAUSE}, 24 at most");
        sound("");
        sound("pass 1;".repeat(23));
        sound("pass 1;".repeat(24));
        faulty("pass 1;".repeat(25), 6, 168);
        CakeCalendar x = new CakeCalendar();
        told(x, "pass 1;".repeat(24));
        due("all 24", x.played(0), -1);
        due("DAWN", x.about(1), 24);
        sound("slices 1;eats 1;" + "pass 1;".repeat(22));
        faulty("slices 1;eats 1;" + "pass 1;".repeat(23), 6, 170);
        CakeCalendar y = new CakeCalendar();
        due("25 are no TEXT", told(y, "pass 1;".repeat(25)), -1);
        due("nothing to be played", y.played(0), -2);
    }

    private static void eachOnce() {
        says(0, "slices SUM ; or eats SUM ; (each once)");
        sound("slices 1;eats 1;");
        CakeCalendar x = sitting(ruled("eats 1+1;slices 30+1;"), 0, 5);
        due("eats told first", x.sisterOf(0, 2), 2);
        due("slices told last", x.slices(0, 0), 31);
        faulty("slices 1;slices 1;", 4, 9);
        faulty("eats 1;eats 1;", 4, 7);
        sound("seat 0 at 0;seat 0 at 0;hide 1 at 0;hide 1 at 0;give 1 at 0;give 1 at 0;pass 1;pass 1;");
    }

    private static void orders() {
        says(0, "seat NUMBER at NUMBER ; or hide NUMBER at NUMBER ; or give NUMBER at NUMBER ; or pass NUMBER ;");
        for (String word : new String[] {"seat", "hide", "give"}) {
            sound(word + " 1 at 1;");
            faulty(word + ";", 1, 4);
            faulty(word + " at 1;", 1, 5);
            faulty(word + " 1 1;", 1, 7);
            faulty(word + " 1 at;", 1, 9);
            faulty(word + " 1 at 1", 1, 11);
            faulty(word + " 1 at 1 1;", 1, 12);
            faulty(word + " (1) at 1;", 1, 5);
            faulty(word + " -1 at 1;", 1, 5);
            faulty(word + " day at 1;", 1, 5);
            faulty(word + " 1 at table;", 1, 10);
        }
        sound("pass 1;");
        faulty("pass;", 1, 4);
        faulty("pass 1", 1, 6);
        faulty("pass 1 at 1;", 1, 7);
        faulty("pass dawn;", 1, 5);
        faulty("at 1;", 1, 0);
    }

    private static void sums() {
        says(0, "SUM: PRODUCT {+ or - PRODUCT}. PRODUCT: ONE {* or / ONE}.");
        sound("slices 1;");
        sound("slices 1+1-1*1/1;");
        faulty("slices ;", 1, 7);
        faulty("slices +1;", 1, 7);
        faulty("slices *1;", 1, 7);
        faulty("slices 1+;", 1, 9);
        faulty("slices 1*;", 1, 9);
        faulty("slices 1/;", 1, 9);
        faulty("slices 1-;", 1, 9);
        faulty("slices 1++1;", 1, 9);
        faulty("slices 1*/1;", 1, 9);
        sound("slices 1*-1;");
        sound("slices 1+-1;");
        worth("2+3*4", 14);
        worth("2*3+4", 10);
        worth("20-6/4", 19);
    }

    private static void ones() {
        says(0, "ONE: NUMBER, NAME, ( SUM ), - ONE, or if EITHER ? SUM : SUM end.");
        sound("slices (1);");
        faulty("slices ();", 1, 8);
        faulty("slices (1;", 1, 9);
        faulty("slices 1);", 1, 8);
        faulty("slices (1+);", 1, 10);
        faulty("slices -;", 1, 8);
        faulty("slices (-);", 1, 9);
        faulty("slices if?1:2 end;", 1, 9);
        faulty("slices if 1=1 1:2 end;", 1, 14);
        faulty("slices if 1=1?:2 end;", 1, 14);
        faulty("slices if 1=1?1 2 end;", 1, 16);
        faulty("slices if 1=1?1:end;", 1, 16);
        faulty("slices if 1=1?1:2;", 1, 17);
        faulty("slices if 1=1?1 end;", 1, 16);
        faulty("slices if 1=1?1=1:2 end;", 1, 15);
        faulty("slices end;", 1, 7);
        worth("-(2+3)*2", -10);
        worth("2*-3", -6);
        worth("-2-3", -5);
        worth("-if 1=1?2:3 end", -2);
    }

    private static void asks() {
        says(0, "EITHER: BOTH {or BOTH}. BOTH: ASK {and ASK}. ASK: not ASK, or SUM one of < <= > >= = # (unlike) SUM.");
        String[] op = {"<", "<=", ">", ">=", "=", "#"};
        int[] below = {7, 7, 8, 8, 8, 7};
        int[] like = {8, 7, 8, 7, 7, 8};
        int[] above = {8, 8, 7, 7, 8, 7};
        for (int i = 0; i < op.length; i++) {
            due("4 " + op[i] + " 5", asked("4" + op[i] + "5"), below[i]);
            due("5 " + op[i] + " 5", asked("5" + op[i] + "5"), like[i]);
            due("6 " + op[i] + " 5", asked("6" + op[i] + "5"), above[i]);
            due("-1 " + op[i] + " 0", asked("-1" + op[i] + "0"), below[i]);
            due("not 4 " + op[i] + " 5", asked("not 4" + op[i] + "5"), 15 - below[i]);
            due("not 5 " + op[i] + " 5", asked("not 5" + op[i] + "5"), 15 - like[i]);
            due("not 6 " + op[i] + " 5", asked("not 6" + op[i] + "5"), 15 - above[i]);
            due("6 " + op[i] + " 5 and 1=1", asked("6" + op[i] + "5 and 1=1"), above[i]);
        }
        due("and binds closer than or", asked("1=1 or 1=1 and 1=2"), 7);
        due("and binds closer than or", asked("1=2 and 1=1 or 1=1"), 7);
        due("not binds closest", asked("not 1=2 or 1=1"), 7);
        due("not binds closest", asked("not 1=1 and 1=2"), 8);
        due("three by or", asked("1=2 or 1=2 or 1=1"), 7);
        due("three by and", asked("1=1 and 1=1 and 1=2"), 8);
        faulty("slices if 1?1:2 end;", 1, 11);
        faulty("slices if 1=?1:2 end;", 1, 12);
        faulty("slices if =1?1:2 end;", 1, 10);
        faulty("slices if 1=1 or?1:2 end;", 1, 16);
        faulty("slices if 1=1 and?1:2 end;", 1, 17);
        faulty("slices if or 1=1?1:2 end;", 1, 10);
        faulty("slices if not?1:2 end;", 1, 13);
        faulty("slices if 1 not=1?1:2 end;", 1, 12);
        faulty("slices if 1=1=1?1:2 end;", 1, 13);
        faulty("slices if (1=1)?1:2 end;", 1, 12);
        faulty("slices if 1=1 not 1=1?1:2 end;", 1, 14);
    }

    private static int asked(String either) {
        return ruled("slices if " + either + "?7:8 end;").slices(0, 0);
    }

    private static void names() {
        says(0, "NAMES: day (of the TABLE), table, dawn in both; sister, appetite, left (what is LEFT as she comes) in eats.");
        for (String name : NAMES_OF_BOTH) {
            sound("slices " + name + ";");
            sound("eats " + name + ";");
        }
        for (String name : NAMES_OF_EATS) {
            faulty("slices " + name + ";", 5, 7);
            sound("eats " + name + ";");
        }
        CakeCalendar x = sitting(ruled("eats left-7;"), 0, 0, 0);
        due("12-7, then 7-7", x.pass(1), 5);
        CakeCalendar y = sitting(ruled("slices 20+day*3;eats day+1;"), 1, 0, 0, 0, 0, 0, 0);
        due("DAY 0: one each", y.pass(2), 12);
        due("DAY 1: two each of 23", y.pass(1), 12);
        due("the DAY of its own TABLE", y.of(0, 0), 0);
        due("LEFT", y.of(1, 1), 11);
    }

    private static void fromTheLeft() {
        says(0, "From the left");
        worth("9-5-3", 1);
        worth("9-5+3", 7);
        worth("64/8/2", 4);
        worth("64/8*2", 16);
        worth("7*3/2", 10);
        worth("3/2*7", 7);
        worth("2-3*4/5-6", -6);
    }

    private static void cutsTowards0() {
        says(0, "/ cuts towards 0");
        worth("7/2", 3);
        worth("-7/2", -3);
        worth("7/-2", -3);
        worth("-7/-2", 3);
        worth("1/2", 0);
        worth("-1/2", 0);
        worth("8/2", 4);
        worth("-8/2", -4);
    }

    private static void by0() {
        says(0, "by 0 it is 0");
        worth("5/0", 0);
        worth("-5/0", 0);
        worth("0/0", 0);
        worth("5/(3-3)+2", 2);
        worth("1000*1000/0", 0);
        due("table is 0 at TABLE 0", ruled("slices 30/table+5;").slices(0, 0), 5);
        due("table is 1 at TABLE 1", ruled("slices 30/table+5;").slices(1, 0), 35);
        CakeCalendar x = sitting(ruled("eats 9/dawn;"), 0, 5);
        due("she would eat at DAWN 0", x.sisterOf(0, 2), 0);
        due("at DAWN 1", x.pass(1), 9);
    }

    private static void above1000000() {
        says(0, "what is above 1000000 (below the same less) is that, at each step.");
        worth("1000*1000", 1000000);
        worth("1000*1000-1", 999999);
        worth("1000*1000+1", 1000000);
        worth("1000*1000+1-1", 999999);
        worth("1+1000*1000-1", 999999);
        worth("1001*1000", 1000000);
        worth("1001*1000-1000", 999000);
        worth("-1000*1000", -1000000);
        worth("-1000*1000-1", -1000000);
        worth("-1000*1000-1+1", -999999);
        worth("-1001*1000+1000", -999000);
        worth("1000*1000*9999/9999", 100);
        worth("(1000*1000)*(1000*1000)", 1000000);
        worth("(1000*1000)*(-1000*1000)", -1000000);
        worth("0-(1000*1000)-(1000*1000)", -1000000);
        worth("1000*1000+1000*1000", 1000000);
        worth("--(1000*1000)", 1000000);
        worth("1000*1000/-1", -1000000);
        worth("999*1001", 999999);
        worth("999*1001+1", 1000000);
    }

    private static void justTheChosenSum() {
        says(0, "of if just the SUM that is chosen is worked.");
        worth("if 1=1?3:4/0 end", 3);
        worth("if 1=2?3:4 end", 4);
        worth("if 1=1?if 1=2?3:4 end:5 end", 4);
        worth("if 1=2?if 1=2?3:4 end:5 end", 5);
        worth("1+if 1=1?2:3 end*if 1=2?4:5 end-1", 10);
        // As much as can stand open at once: five values held by each of 8 around one another.
        String deep = "if 1=2 or 1=1 and 0<1+1*".repeat(8) + "1" + "?1:0 end".repeat(7) + "?7:8 end";
        due("eight levels", ruled("slices " + deep + ";").slices(0, 0), 7);
    }

    private static void firstFault() {
        says(0, "FAULTS, the first as TOKENS are come to");
        faulty("pass 0;slices left;!", 2, 5);
        faulty("slices left;pass 0;", 5, 7);
        faulty("slices 1;slices 10000;", 4, 9);
        faulty("slices 10000;slices 1;", 2, 7);
        faulty("slices (((((((((10000;", 3, 15);
        faulty("slices 10000+(((((((((1;", 2, 7);
        faulty("pass 1;! pass 0;", 1, 7);
        faulty("seat 6 at 3;", 2, 5);
        faulty("hide 0 at 2;", 2, 5);
        faulty("pass 1;".repeat(24) + "pass 0;", 6, 168);
        faulty("pass 1;".repeat(23) + "pass 0;pass 1;", 2, 166);
        CakeCalendar x = new CakeCalendar();
        told(x, "pass 0;left");
        due("of the latest", told(x, "left"), -1);
        due("FAULT", x.fault(0), 1);
    }

    private static void firstByte() {
        says(0, "at the TOKEN's first byte");
        faulty("   slicez 1;", 1, 3);
        faulty("slices   12345 ;", 2, 9);
        faulty("slices 1 \n appetite;", 1, 11);
        faulty("slices\n\nappetite;", 5, 8);
        faulty("eats 1 <= 2;", 1, 7);
        faulty("eats 1;  eats 2;", 4, 9);
        faulty("pass 1;".repeat(24) + " \n slices 3;", 6, 171);
        faulty("eats ( ( ( ( ( ( ( (  if", 3, 22);
        faulty("x", 1, 0);
    }

    private static void endAtTheLength() {
        says(0, "(of the end at the length)");
        faulty("slices", 1, 6);
        faulty("slices 1", 1, 8);
        faulty("slices 1 ", 1, 9);
        faulty("slices 1\n\n  ", 1, 12);
        faulty("slices (1", 1, 9);
        faulty("slices if 1=1?1:2 ", 1, 18);
        faulty("seat 1 at", 1, 9);
        faulty("seat 1 ", 1, 7);
        faulty(" ".repeat(294) + "pass 1", 1, 300);
        // Of the tape as it was cut, not as it was fed.
        CakeCalendar x = new CakeCalendar();
        x.feed(0x70617373, 0x20313b70, 0x61737320, 0x323b7061, 0x73732033);
        x.end(6);
        due("text()", x.text(), -1);
        due("FAULT", x.fault(0), 1);
        due("place", x.fault(1), 6);
    }

    private static void ofOneTheLeast() {
        says(0, "of one the least");
        // 1 ahead of 2, 3, 4, 5, 6: what can't stand there.
        faulty("slices 1 10000;", 1, 9);
        faulty("10000", 1, 0);
        faulty("pass 1;10000", 1, 7);
        faulty("slices ((((((((1(1", 1, 16);
        faulty("slices ((((((((not", 1, 15);
        faulty("slices ((((((((1 if", 1, 17);
        faulty("slices 1 slices 1;", 1, 9);
        faulty("slices 1;eats slices", 1, 14);
        faulty("slices 1 left;", 1, 9);
        faulty("slices 1;left", 1, 9);
        faulty("hide left at 1;", 1, 5);
        faulty("pass 1;".repeat(24) + "day", 1, 168);
        faulty("pass 1;".repeat(24) + ";", 1, 168);
        faulty("pass 1;".repeat(24) + "1", 1, 168);
        faulty("pass 1;".repeat(24) + "!", 1, 168);
        // 4 ahead of 6: slices and eats told again as the 25th.
        faulty("slices 1;" + "pass 1;".repeat(23) + "slices 1;", 4, 170);
        faulty("eats 1;" + "pass 1;".repeat(23) + "eats 1;", 4, 168);
        faulty("eats 1;" + "pass 1;".repeat(23) + "slices 1;", 6, 168);
    }

    private static void fault1() {
        says(0, "1 it can't stand there, or is none.");
        for (String word : new String[] {"at", "if", "or", "and", "not", "end", "day", "left", "(", ")", ";", "?", ":", "<", "<=", "+", "-", "7", "foo", "!", "\u00e9"}) {
            faulty(word, 1, 0);
            faulty("pass 1;" + word, 1, 7);
            faulty("pass " + (word.equals("7") ? "+" : word), 1, 5);
        }
        for (String none : new String[] {"foo", "DAY", "lefts", "!", "$", ".", ",", "&", "\"", "\u0000", "\u00ff", "~"}) {
            faulty("eats " + none + ";", 1, 5);
            faulty("eats 1 " + none + ";", 1, 7);
        }
        for (String word : new String[] {"slices", "eats", "seat", "hide", "give", "pass", "at", "or", "and", "not", "end"}) {
            faulty("eats " + word + ";", 1, 5);
        }
    }

    private static void fault2() {
        says(0, "2 a NUMBER that isn't one of those told (above 9999; SISTERS 0 .. 5, SEATS 0 .. 2, TABLES 0 .. 1, slices 1 .. 9, of pass 1 .. 99).");
        faulty("slices 9999;", 0, -1);
        faulty("slices 10000;", 2, 7);
        for (int s = 0; s <= 5; s++) {
            sound("seat " + s + " at 0;");
        }
        faulty("seat 6 at 0;", 2, 5);
        faulty("seat 10000 at 0;", 2, 5);
        for (int s = 0; s <= 2; s++) {
            sound("seat 0 at " + s + ";");
        }
        faulty("seat 0 at 3;", 2, 10);
        for (String word : new String[] {"hide", "give"}) {
            for (int k = 1; k <= 9; k++) {
                sound(word + " " + k + " at 0;");
            }
            faulty(word + " 0 at 0;", 2, 5);
            faulty(word + " 10 at 0;", 2, 5);
            sound(word + " 1 at 0;");
            sound(word + " 1 at 1;");
            faulty(word + " 1 at 2;", 2, 10);
            faulty(word + " 1 at 10000;", 2, 10);
        }
        sound("pass 1;");
        sound("pass 99;");
        faulty("pass 0;", 2, 5);
        faulty("pass 100;", 2, 5);
        sound("pass 0099;");
        faulty("pass 00;", 2, 5);
    }

    private static void fault3AtTheNinth() {
        says(0, "3 the 9th of ( not if and - (of one ONE) that are open around one another (at it).");
        sound("eats " + "(".repeat(8) + "1" + ")".repeat(8) + ";");
        faulty("eats " + "(".repeat(9) + "1" + ")".repeat(9) + ";", 3, 13);
        sound("eats " + "-".repeat(8) + "1;");
        faulty("eats " + "-".repeat(9) + "1;", 3, 13);
        sound("eats if " + "not ".repeat(7) + "1=1?1:2 end;");
        faulty("eats if " + "not ".repeat(8) + "1=1?1:2 end;", 3, 36);
        sound("eats " + "if ".repeat(8) + "1" + "=1?1:2 end".repeat(8) + ";");
        faulty("eats " + "if ".repeat(9) + "1" + "=1?1:2 end".repeat(9) + ";", 3, 29);
        // Each of the four as the 9th behind eight of another kind, and none as the 8th.
        String eight = "eats ((((((((";
        String seven = "eats (((((((";
        faulty(eight + "(1", 3, 13);
        faulty(eight + "-1", 3, 13);
        faulty(eight + "if 1=1", 3, 13);
        faulty("eats (((((((if not 1=1", 3, 15);
        faulty(seven + "(1", 1, 14);
        faulty(seven + "-1", 1, 14);
        faulty(seven + "if 1=1", 1, 18);
        faulty("eats ((((((if not 1=1", 1, 21);
        due("eight of - are worked", ruled("slices --------7;").slices(0, 0), 7);
        due("eight of ( are worked", ruled("slices ((((((((7))))))));").slices(0, 0), 7);
    }

    private static void fault3Open() {
        says(0, "that are open around one another");
        // if is open in its EITHER, in both its SUMS, and no longer behind its end.
        faulty("eats ((((((((1)))))))+if (((((((((", 3, 31);
        faulty("eats (((((((if (", 3, 15);
        faulty("eats (((((((if 1=(", 3, 17);
        faulty("eats (((((((if 1=1 or (", 3, 22);
        faulty("eats (((((((if 1=1 and -", 3, 23);
        faulty("eats (((((((if 1=1?(", 3, 19);
        faulty("eats (((((((if 1=1?1:(", 3, 21);
        faulty("eats (((((((if 1=1?1:2 end+(", 1, 28);
        faulty("eats (((((((if 1=1?1:2 end+((", 3, 28);
        // not is open on both sides of its ASK, - in its ONE alone.
        faulty("eats ((((((if not (", 3, 18);
        faulty("eats ((((((if not 1=(", 3, 20);
        faulty("eats ((((((if not 1=1 or (", 1, 26);
        faulty("eats ((((((if not 1=1 or not (", 3, 29);
        faulty("eats (((((((-(", 3, 13);
        faulty("eats (((((((-1*(", 1, 16);
        faulty("eats (((((((-1*((", 3, 16);
    }

    private static void fault3Closed() {
        says(0, "3 the 9th of ( not if and - (of one ONE)");
        // What is closed counts no more, and a - of two ONES never does.
        sound("eats ((((((((1))))))))+((((((((1))))))));");
        sound("eats --------1---------1;");
        faulty("eats --------1----------1;", 3, 23);
        sound("eats 1-1-1-1-1-1-1-1-1-1-1;");
        sound("eats ((((((((1-1-1))))))));");
        faulty("eats ((((((((1-1--1))))))));", 3, 17);
        sound("eats if not 1=1 and not 1=1 and not 1=1 and not 1=1 and not 1=1 and not 1=1 and not 1=1 and not 1=1 and not 1=1?1:2 end;");
        sound("eats 1" + "+if 1=1?1:2 end".repeat(12) + ";");
        sound("eats -1*-1*-1*-1*-1*-1*-1*-1*-1*-1;");
        // The next law starts anew.
        sound("eats ((((((((1))))))));slices ((((((((1))))))));");
    }

    private static void fault4() {
        says(0, "4 slices, eats for the second time (at it).");
        faulty("slices 1;slices 2;", 4, 9);
        faulty("eats 1;eats 2;", 4, 7);
        faulty("slices 1;eats 1;slices 2;", 4, 16);
        faulty("slices 1;eats 1;eats", 4, 16);
        faulty("slices 1;pass 1; slices", 4, 17);
        CakeCalendar x = new CakeCalendar();
        told(x, "slices 1;slices 2;");
        due("in the next text it is the first time", told(x, "slices 3;"), 0);
        told(x, "slices 4;eats 1;!");
        due("behind a FAULT too", told(x, "slices 5;eats 2;"), 1);
        due("in another TEXT too", told(x, "slices 6;eats 3;"), 2);
    }

    /** A text with a FAULT is no TEXT: nothing of it is in the next one, which has its number. */
    private static void nothingOfAFaultyText() {
        says(7, "NONE: it has a FAULT");
        CakeCalendar x = sitting(new CakeCalendar(), 0, 1);
        told(x, "slices -1;eats -(-1);pass 2;hide 1 at 0;!");
        due("the next", told(x, "pass 3;slices 7;"), 0);
        x.by(0);
        due("its SLICES", x.slices(0, 0), 7);
        due("no law of what she eats", x.sisterOf(0, 2), 1);
        due("played(0)", x.played(0), -1);
        due("its own CLAUSES alone", x.about(1), 3);
        due("nothing is HIDDEN", x.of(0, 2), 0);
        // As one whose number is free again behind BACK.
        told(x, "eats 9;pass 1;pass 5;");
        x.back();
        due("told anew", told(x, "pass 1;"), 0);
        due("played(0)", x.played(0), -1);
        due("DAWN", x.about(1), 1);
        due("by(0)", x.by(0), true);
        due("SLICES", x.slices(0, 0), 12);
        // Many long ones leave room for one more.
        for (int i = 0; i < 5; i++) {
            due("with a FAULT", told(x, "slices 1" + "+1".repeat(140) + "!"), -1);
        }
        due("text()", told(x, "slices 1" + "+1".repeat(49) + "-1".repeat(40) + ";"), 1);
        x.by(1);
        due("SLICES", x.slices(0, 0), 10);
    }

    private static void fault5() {
        says(0, "5 a NAME that isn't of that CLAUSE (at it).");
        for (String name : NAMES_OF_EATS) {
            faulty("slices " + name + ";", 5, 7);
            faulty("slices 1+" + name + ";", 5, 9);
            faulty("slices (" + name + ");", 5, 8);
            faulty("slices -" + name + ";", 5, 8);
            faulty("slices if " + name + "=1?1:2 end;", 5, 10);
            faulty("slices if 1=1?1:" + name + " end;", 5, 16);
            faulty("eats " + name + ";slices " + name + ";", 5, 13 + name.length());
            sound("slices 1;eats " + name + ";");
        }
    }

    private static void fault6() {
        says(0, "6 the 25th CLAUSE (at its first TOKEN).");
        String most = "pass 1;".repeat(24);
        for (String word : new String[] {"slices", "eats", "seat", "hide", "give", "pass"}) {
            faulty(most + word, 6, 168);
            faulty(most + "  " + word + " 1;", 6, 170);
        }
        sound(most);
        sound(most + " \n ");
        sound("slices 1;" + "pass 1;".repeat(22) + "eats 1;");
    }

    private static void theTextRules() {
        says(0, "THE TEXT (told; at first none) rules.");
        CakeCalendar x = new CakeCalendar();
        due("at first none", x.about(5), -1);
        told(x, "slices 5;eats 3;");
        due("a TEXT does not rule by being told", x.slices(0, 0), 12);
        sitting(x, 0, 9);
        x.by(0);
        due("SLICES", x.slices(0, 0), 5);
        due("she would eat", x.sisterOf(0, 2), 3);
        told(x, "eats;");
        due("a FAULT changes no law", x.slices(0, 0), 5);
        due("nor the other", x.sisterOf(0, 2), 3);
        told(x, "slices 6;");
        due("nor does another TEXT", x.slices(0, 0), 5);
        x.by(1);
        due("its SLICES", x.slices(0, 0), 6);
        due("and none of the former's laws", x.sisterOf(0, 2), 9);
    }

    private static void playedInOrder() {
        says(0, "PLAYED by a TEXT: its seat (SISTER at SEAT), hide and give (slices at TABLE) and pass (DAWNS) clauses, in their order, as by hand");
        CakeCalendar x = new CakeCalendar();
        for (int i = 0; i < 6; i++) {
            x.sister(1);
        }
        told(x, "seat 5 at 1;hide 9 at 0;hide 2 at 1;give 8 at 0;pass 3;seat 5 at 2;pass 1;");
        due("played(0)", x.played(0), -1);
        due("HIDDEN at 0", x.of(0, 2), 1);
        due("HIDDEN at 1", x.of(1, 2), 2);
        due("LEFT at 1", x.of(1, 1), 7);
        due("DAWN", x.about(1), 4);
        due("SEAT", x.sisterOf(5, 1), 2);
        due("STEPS", x.about(6), 9);
        CakeCalendar y = sitting(new CakeCalendar(), 0, 4);
        told(y, "slices 60;eats 1;pass 1;");
        due("played(0)", y.played(0), -1);
        due("by the laws of THE TEXT, which is none", y.of(0, 1), 8);
        told(y, "pass 99;pass 99;");
        due("198 DAWNS", y.played(1), -1);
        due("DAWN", y.about(1), 199);
    }

    private static void oneThatCantBe() {
        says(0, "one that can't be ends it: its number among all CLAUSES (from 0); what was done stays.");
        CakeCalendar x = new CakeCalendar();
        told(x, "seat 0 at 0;");
        due("the first: no such SISTER", x.played(0), 0);
        x.sister(1);
        due("now it can be", x.played(0), -1);
        due("it is her SEAT", x.played(0), 0);
        told(x, "slices 5;pass 2;eats 1;give 1 at 1;pass 3;");
        due("laws are counted", x.played(1), 3);
        due("what was done stays", x.about(1), 2);
        told(x, "pass 1;".repeat(23) + "give 1 at 0;");
        due("the 24th", x.played(2), 23);
        due("what was done stays", x.about(1), 25);
        told(x, "hide 9 at 1;hide 4 at 1;");
        due("not so many are LEFT", x.played(3), 1);
        due("LEFT", x.of(1, 1), 3);
        CakeCalendar y = new CakeCalendar();
        told(y, "pass 5;pass 99;pass 1;");
        passTo(y, 896);
        due("beyond 999: none of the 99", y.played(0), 1);
        due("DAWN", y.about(1), 901);
        CakeCalendar z = new CakeCalendar();
        told(z, "pass 5;pass 99;pass 1;");
        passTo(z, 895);
        due("to 999, and no farther", z.played(0), 2);
        due("DAWN", z.about(1), 999);
    }
}
