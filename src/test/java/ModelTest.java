import java.math.BigInteger;
import java.util.ArrayList;
import java.util.Arrays;
import java.util.List;
import java.util.Random;

/**
 * Long random runs, each call put to CakeCalendar and to a second, slow reading of the document (Model) that shares
 * no code with it: laws as trees, all seats tried one by one, odds by every row of draws, images as whole copies.
 */
public final class ModelTest {
    private static int wrong = 0;

    public static void main(String[] args) {
        int runs = args.length > 0 ? Integer.parseInt(args[0]) : 400;
        long[] counts = new long[29];
        for (int run = 0; run < runs && wrong < 20; run++) {
            new Run(run, counts).go();
        }
        for (int i = 1; i < counts.length; i++) {
            if (counts[i] == 0) {
                wrong++;
                System.out.println("promise " + (i) + " was never called");
            }
        }
        System.out.println(wrong == 0 ? "model: all answers alike" : "model: " + wrong + " answers unlike");
        if (wrong != 0) {
            System.exit(1);
        }
    }

    /** One random run of at most 512 calls. */
    private static final class Run {
        final int run;
        final long[] counts;
        final Random random;
        final CakeCalendar x = new CakeCalendar();
        final Model m = new Model();
        final StringBuilder log = new StringBuilder();
        boolean failed = false;

        Run(int run, long[] counts) {
            this.run = run;
            this.counts = counts;
            this.random = new Random(run * 7919L + 5);
            counts[1]++;
        }

        void same(int promise, String call, long got, long due) {
            counts[promise]++;
            log.append(call).append(" -> ").append(got).append('\n');
            if (got != due && !failed) {
                failed = true;
                wrong++;
                System.out.println("run " + run + ": " + call + " answered " + got + ", the model says " + due);
                if (wrong == 1) {
                    System.out.println(log);
                }
            }
        }

        void go() {
            int calls = 0;
            int sisters = random.nextInt(7);
            for (int i = 0; i < sisters; i++) {
                call(2);
                same(11, "seat(" + i + ", " + i % 2 + ")", x.seat(i, i % 2) ? 1 : 0, m.seat(i, i % 2) ? 1 : 0);
            }
            call(3);
            if (random.nextInt(4) != 0) {
                call(26);
            }
            if (random.nextInt(3) == 0) {
                same(14, "pass(99)", x.pass(99), m.pass(99));
                for (int i = 0; i < random.nextInt(11); i++) {
                    same(14, "pass(99)", x.pass(99), m.pass(99));
                }
            }
            while (calls < 330 && !failed) {
                if (random.nextInt(12) == 0) {
                    calls += tellText();
                } else {
                    call(pick());
                    calls++;
                }
            }
        }

        int pick() {
            int kind = random.nextInt(40);
            if (kind == 27 && random.nextInt(3) != 0) {
                kind = 14;
            }
            if (kind == 12 && random.nextBoolean()) {
                // Slices that stay hidden keep a cake for ever.
                kind = 13;
            }
            if (kind < 2) {
                return 11;
            }
            return kind <= 28 ? kind : kind <= 33 ? 14 : kind <= 36 ? 11 : 23;
        }

        int near(int low, int high) {
            int r = random.nextInt(30);
            if (r == 0) {
                return low - 1;
            }
            if (r == 1) {
                return high + 1;
            }
            if (r == 2) {
                int[] far = {Integer.MIN_VALUE, Integer.MAX_VALUE, -2, -1, 0, 1, 1000, 999, 61, 60, 300};
                return far[random.nextInt(far.length)];
            }
            return low + random.nextInt(high - low + 1);
        }

        int nearDay(int table) {
            if (random.nextInt(4) == 0) {
                return near(0, 999);
            }
            int day = m.of(table == 1 ? 1 : 0, 0) + random.nextInt(5) - random.nextInt(8) / 7;
            return random.nextInt(20) == 0 ? 999 : day;
        }

        /** One near to what was found, so that answers are not all the same. */
        int about(int found, int low, int high) {
            return found < 0 ? near(low, Math.min(high, 9)) : Math.max(low, Math.min(high, found + random.nextInt(4) - 2));
        }

        int tellText() {
            String text = new Maker(random).text();
            same(6, "end(0)", x.end(0), m.end(0));
            int n = 0;
            byte[] bytes = new byte[300];
            for (; n < text.length() && n < 300; n++) {
                bytes[n] = (byte) text.charAt(n);
            }
            int calls = 2;
            for (int i = 0; i < n; i += 20) {
                feed(bytes, i);
                calls++;
            }
            same(6, "end(" + n + ")", x.end(n), m.end(n));
            same(7, "text() of " + text, x.text(), m.text());
            same(8, "fault(0)", x.fault(0), m.fault(0));
            same(8, "fault(1)", x.fault(1), m.fault(1));
            if (random.nextBoolean()) {
                int t = m.about(4) - 1;
                same(9, "by(" + t + ")", x.by(t) ? 1 : 0, m.by(t) ? 1 : 0);
            }
            return calls + 5;
        }

        void feed(byte[] bytes, int from) {
            int[] w = new int[5];
            for (int i = 0; i < 20; i++) {
                w[i / 4] = w[i / 4] << 8 | bytes[from + i] & 255;
            }
            same(5, "feed(" + w[0] + ", " + w[1] + ", " + w[2] + ", " + w[3] + ", " + w[4] + ")",
                x.feed(w[0], w[1], w[2], w[3], w[4]), m.feed(w[0], w[1], w[2], w[3], w[4]));
        }

        void call(int kind) {
            int t = near(0, 1);
            int day = nearDay(t);
            int a;
            int b;
            boolean z = random.nextBoolean();
            switch (kind) {
                case 2:
                    a = near(0, 9);
                    same(2, "sister(" + a + ")", x.sister(a), m.sister(a));
                    break;
                case 3:
                    a = near(0, 10);
                    same(3, "mice(" + a + ")", x.mice(a) ? 1 : 0, m.mice(a) ? 1 : 0);
                    break;
                case 4:
                    a = near(0, 9999);
                    same(4, "seed(" + a + ")", x.seed(a) ? 1 : 0, m.seed(a) ? 1 : 0);
                    break;
                case 5:
                    feed(new byte[20], 0);
                    break;
                case 6:
                    a = near(0, 40);
                    same(6, "end(" + a + ")", x.end(a), m.end(a));
                    break;
                case 7:
                    same(7, "text()", x.text(), m.text());
                    break;
                case 8:
                    a = near(0, 1);
                    same(8, "fault(" + a + ")", x.fault(a), m.fault(a));
                    break;
                case 9:
                    a = near(-1, 3);
                    same(9, "by(" + a + ")", x.by(a) ? 1 : 0, m.by(a) ? 1 : 0);
                    break;
                case 10:
                    same(10, "slices(" + t + ", " + day + ")", x.slices(t, day), m.slices(t, day));
                    break;
                case 11:
                    a = near(0, 5);
                    b = near(0, 2);
                    same(11, "seat(" + a + ", " + b + ")", x.seat(a, b) ? 1 : 0, m.seat(a, b) ? 1 : 0);
                    break;
                case 12:
                    a = near(1, 9);
                    same(12, "hide(" + t + ", " + a + ")", x.hide(t, a), m.hide(t, a));
                    break;
                case 13:
                    a = near(1, 9);
                    same(13, "give(" + t + ", " + a + ")", x.give(t, a), m.give(t, a));
                    break;
                case 14:
                    a = random.nextInt(6) == 0 ? near(1, 99) : near(1, 4);
                    same(14, "pass(" + a + ")", x.pass(a), m.pass(a));
                    break;
                case 15:
                    a = near(0, 3);
                    same(15, "played(" + a + ")", x.played(a), m.played(a));
                    break;
                case 16:
                    same(16, "undo()", x.undo(), m.undo());
                    break;
                case 17:
                    a = near(0, 3);
                    same(17, "of(" + t + ", " + a + ")", x.of(t, a), m.of(t, a));
                    break;
                case 18:
                    a = near(0, 5);
                    b = near(0, 2);
                    same(18, "sisterOf(" + a + ", " + b + ")", x.sisterOf(a, b), m.sisterOf(a, b));
                    break;
                case 19:
                    same(19, "comes(" + t + ", " + day + ", " + z + ")", x.comes(t, day, z), m.comes(t, day, z));
                    break;
                case 20:
                    a = random.nextInt(3) == 0 ? near(0, random.nextInt(10) == 0 ? 15 : 9) : about(m.comes(t, day, z), 0, 12);
                    b = near(0, 1);
                    same(20, "odds(" + t + ", " + day + ", " + a + ", " + b + ")", x.odds(t, day, a, b), m.odds(t, day, a, b));
                    break;
                case 21:
                    a = near(0, 60);
                    same(21, "apart(" + a + ")", x.apart(a), m.apart(a));
                    break;
                case 22:
                    a = near(0, 999);
                    b = random.nextBoolean() ? near(0, 999) : a + random.nextInt(10);
                    same(22, "flour(" + t + ", " + a + ", " + b + ")", x.flour(t, a, b), m.flour(t, a, b));
                    break;
                case 23:
                    a = random.nextInt(3) == 0 ? near(1, 30) : about(m.comes(t, day, true), 1, 30);
                    b = near(-1, 5);
                    same(23, "saint(" + t + ", " + day + ", " + a + ", " + b + ")", x.saint(t, day, a, b), m.saint(t, day, a, b));
                    break;
                case 24:
                    seen(t, day);
                    break;
                case 25:
                    a = random.nextInt(3) == 0 ? -1 : near(-1, 7);
                    same(25, "who(" + t + ", " + day + ", " + a + ")", x.who(t, day, a), m.who(t, day, a));
                    break;
                case 26:
                    same(26, "image()", x.image(), m.image());
                    break;
                case 27:
                    same(27, "back()", x.back(), m.back());
                    break;
                default:
                    a = near(0, 8);
                    same(28, "about(" + a + ")", x.about(a), m.about(a));
                    break;
            }
        }

        /** Mostly what some set would leave, so that who finds sets; then who is asked at once. */
        void seen(int t, int day) {
            if (t < 0 || t > 1 || day < 0 || day > 999 || random.nextInt(3) == 0) {
                int a = near(-1, 60);
                same(24, "seen(" + a + ")", x.seen(a), m.seen(a));
                return;
            }
            same(24, "seen(-1)", x.seen(-1), m.seen(-1));
            int set = random.nextInt(64);
            int n = random.nextInt(10);
            int[] left = m.leftBy(t, day, set, n);
            for (int l : left) {
                same(24, "seen(" + l + ")", x.seen(l), m.seen(l));
            }
            same(25, "who(" + t + ", " + day + ", -1)", x.who(t, day, -1), m.who(t, day, -1));
            same(25, "who(" + t + ", " + day + ", 1)", x.who(t, day, 1), m.who(t, day, 1));
        }
    }

    /** Makes texts that are mostly sound, and now and then spoils them. */
    private static final class Maker {
        final Random random;
        boolean eats;

        Maker(Random random) {
            this.random = random;
        }

        String pick(String... of) {
            return of[random.nextInt(of.length)];
        }

        String gap() {
            return pick("", "", " ", "\n");
        }

        String text() {
            StringBuilder s = new StringBuilder();
            int kind = random.nextInt(12);
            if (kind == 0) {
                int n = 22 + random.nextInt(5);
                for (int i = 0; i < n; i++) {
                    s.append(pick("pass 1;", "hide 1 at 0;", "give 1 at 0;", "seat 0 at 1;", i > 22 ? "slices 2;" : "pass 2;"));
                }
            } else if (kind == 1) {
                deep(s);
            } else {
                if (random.nextInt(3) == 0) {
                    s.append(pick("slices 4+day*3-dawn/2;", "slices 1 + dawn ;", "slices 2;", "slices 9-8*table;"));
                } else if (random.nextInt(3) != 0) {
                    eats = random.nextInt(20) == 0;
                    s.append("slices ").append(sum(2 + random.nextInt(2))).append(gap()).append(';').append(gap());
                }
                if (random.nextInt(3) == 0) {
                    s.append(pick("eats if left>3?appetite:1 end;", "eats 9;", "eats sister+1;", "eats left/2+dawn-dawn/2*2;"));
                } else if (random.nextInt(3) != 0) {
                    eats = true;
                    s.append("eats ").append(sum(2 + random.nextInt(2))).append(gap()).append(';').append(gap());
                }
                int n = random.nextInt(5);
                for (int i = 0; i < n; i++) {
                    s.append(random.nextInt(40) == 0 ? pick("eats 3;", "slices 4;") : order()).append(gap());
                }
            }
            if (random.nextInt(4) == 0) {
                spoil(s);
            }
            return s.toString();
        }

        void deep(StringBuilder s) {
            s.append(pick("slices ", "eats "));
            int n = 6 + random.nextInt(4);
            StringBuilder tail = new StringBuilder();
            for (int i = 0; i < n; i++) {
                switch (random.nextInt(4)) {
                    case 0:
                        s.append('(');
                        tail.insert(0, pick(")", "+1)", "*2)"));
                        break;
                    case 1:
                        s.append("- ");
                        break;
                    case 2:
                        s.append("if ");
                        tail.insert(0, "<4?5:day end");
                        break;
                    default:
                        s.append("if not ");
                        i++;
                        tail.insert(0, ">4?5:table end");
                        break;
                }
            }
            s.append("3").append(tail).append(pick(";", ";", ""));
        }

        void spoil(StringBuilder s) {
            int n = 1 + random.nextInt(3);
            for (int i = 0; i < n; i++) {
                int at = random.nextInt(s.length() + 1);
                String junk = pick("(", ")", "-", ";", "if ", " end ", " left ", "not ", "10000", "9999", "<=", "=", "#", " or ", "day",
                    "slices ", "eats ", "at", "?", ":", "\t", "\u0000", "\u00e9", "00000000000000000001", "Day", "99999999999999999999");
                if (random.nextBoolean() && at < s.length()) {
                    s.deleteCharAt(at);
                } else if (s.length() + junk.length() <= 300) {
                    s.insert(at, junk);
                }
            }
        }

        String order() {
            switch (random.nextInt(4)) {
                case 0:
                    return "seat " + random.nextInt(random.nextInt(8) == 0 ? 8 : 6) + " at " + random.nextInt(random.nextInt(8) == 0 ? 5 : 3) + ";";
                case 1:
                    return "hide " + (random.nextInt(8) == 0 ? random.nextInt(12) : 1 + random.nextInt(3)) + " at " + random.nextInt(random.nextInt(8) == 0 ? 3 : 2) + ";";
                case 2:
                    return "give " + (random.nextInt(8) == 0 ? random.nextInt(12) : 1 + random.nextInt(3)) + " at " + random.nextInt(random.nextInt(8) == 0 ? 3 : 2) + gap() + ";";
                default:
                    return "pass " + (random.nextInt(8) == 0 ? random.nextInt(120) : 1 + random.nextInt(3)) + ";";
            }
        }

        String sum(int depth) {
            StringBuilder s = new StringBuilder(product(depth));
            for (int i = random.nextInt(3); i > 0; i--) {
                s.append(gap()).append(pick("+", "-")).append(gap()).append(product(depth));
            }
            return s.toString();
        }

        String product(int depth) {
            StringBuilder s = new StringBuilder(one(depth));
            for (int i = random.nextInt(5) / 3; i > 0; i--) {
                s.append(gap()).append(pick("*", "/", "/")).append(gap()).append(one(depth));
            }
            return s.toString();
        }

        String one(int depth) {
            int kind = random.nextInt(depth > 0 ? 7 : 4);
            switch (kind) {
                case 0:
                case 1:
                    return pick("1", "2", "3", "5", "0", "12", "9", "7", random.nextInt(6) == 0 ? "9999" : "4");
                case 2:
                case 3:
                    return " " + (eats ? pick("day", "table", "dawn", "sister", "appetite", "left", "appetite", "left") : pick("day", "table", "dawn")) + " ";
                case 4:
                    return "(" + sum(depth - 1) + ")";
                case 5:
                    return "-" + gap() + one(depth - 1);
                default:
                    return "if " + either(depth - 1) + "?" + sum(depth - 1) + ":" + sum(depth - 1) + " end ";
            }
        }

        String either(int depth) {
            StringBuilder s = new StringBuilder(ask(depth));
            for (int i = random.nextInt(3); i > 0; i--) {
                s.append(pick(" or ", " and ")).append(ask(depth));
            }
            return s.toString();
        }

        String ask(int depth) {
            if (random.nextInt(4) == 0) {
                return " not " + ask(depth);
            }
            return sum(depth - 1) + gap() + pick("<", "<=", ">", ">=", "=", "#") + gap() + sum(depth - 1);
        }
    }

    private interface Node {
        long work(long[] names);
    }

    private static final class Fault extends RuntimeException {
        private static final long serialVersionUID = 1L;
        final int number;
        final int place;

        Fault(int number, int place) {
            super("fault", null, false, false);
            this.number = number;
            this.place = place;
        }
    }

    private record Token(String word, int place) {
        boolean is(String other) {
            return word.equals(other);
        }

        boolean number() {
            return !word.isEmpty() && Character.isDigit(word.charAt(0)) && word.charAt(0) < 128;
        }

        BigInteger value() {
            return new BigInteger(word);
        }
    }

    private static final class Script {
        Node slices;
        Node eats;
        final List<int[]> clauses = new ArrayList<>();
        private final List<Token> tokens = new ArrayList<>();
        private int at = 0;
        private final List<String> allowed = new ArrayList<>();

        Script(String s) {
            split(s);
            while (!peek().is("")) {
                clause();
            }
        }

        private void split(String s) {
            int i = 0;
            while (i < s.length()) {
                char c = s.charAt(i);
                int j = i + 1;
                if (c == ' ' || c == '\n') {
                    i++;
                    continue;
                }
                if (letter(c)) {
                    while (j < s.length() && letter(s.charAt(j))) {
                        j++;
                    }
                } else if (c >= '0' && c <= '9') {
                    while (j < s.length() && s.charAt(j) >= '0' && s.charAt(j) <= '9') {
                        j++;
                    }
                } else if (s.startsWith("<=", i) || s.startsWith(">=", i)) {
                    j++;
                }
                tokens.add(new Token(s.substring(i, j), i));
                i = j;
            }
            tokens.add(new Token("", s.length()));
        }

        private static boolean letter(char c) {
            return c >= 'a' && c <= 'z' || c >= 'A' && c <= 'Z';
        }

        private Token peek() {
            return tokens.get(at);
        }

        private Fault fault(int number) {
            return new Fault(number, peek().place());
        }

        private void want(String word) {
            if (!peek().is(word)) {
                throw fault(1);
            }
            at++;
        }

        private int number(int low, int high) {
            if (!peek().number()) {
                throw fault(1);
            }
            BigInteger v = peek().value();
            if (v.compareTo(BigInteger.valueOf(low)) < 0 || v.compareTo(BigInteger.valueOf(high)) > 0) {
                throw fault(2);
            }
            at++;
            return v.intValue();
        }

        private void clause() {
            String w = peek().word();
            if (!List.of("slices", "eats", "seat", "hide", "give", "pass").contains(w)) {
                throw fault(1);
            }
            if (w.equals("slices") && slices != null || w.equals("eats") && eats != null) {
                throw fault(4);
            }
            if (clauses.size() == 24) {
                throw fault(6);
            }
            at++;
            int[] c = {"sehgp".indexOf(w.equals("seat") ? 'e' : w.charAt(0)), 0, 0};
            if (w.equals("slices")) {
                allowed.clear();
                allowed.addAll(List.of("day", "table", "dawn"));
                slices = sum(0);
                c[0] = -1;
            } else if (w.equals("eats")) {
                allowed.clear();
                allowed.addAll(List.of("day", "table", "dawn", "sister", "appetite", "left"));
                eats = sum(0);
                c[0] = -1;
            } else if (w.equals("pass")) {
                c[1] = number(1, 99);
            } else {
                c[1] = w.equals("seat") ? number(0, 5) : number(1, 9);
                want("at");
                c[2] = number(0, w.equals("seat") ? 2 : 1);
            }
            want(";");
            clauses.add(c);
        }

        private static long cut(BigInteger v) {
            BigInteger most = BigInteger.valueOf(1000000);
            return v.min(most).max(most.negate()).longValue();
        }

        private static BigInteger big(long v) {
            return BigInteger.valueOf(v);
        }

        private Node sum(int open) {
            Node a = product(open);
            while (peek().is("+") || peek().is("-")) {
                boolean plus = peek().is("+");
                at++;
                Node l = a;
                Node r = product(open);
                a = plus ? n -> cut(big(l.work(n)).add(big(r.work(n)))) : n -> cut(big(l.work(n)).subtract(big(r.work(n))));
            }
            return a;
        }

        private Node product(int open) {
            Node a = one(open);
            while (peek().is("*") || peek().is("/")) {
                boolean times = peek().is("*");
                at++;
                Node l = a;
                Node r = one(open);
                a = times ? n -> cut(big(l.work(n)).multiply(big(r.work(n)))) : n -> {
                    long by = r.work(n);
                    return by == 0 ? 0 : cut(big(l.work(n)).divide(big(by)));
                };
            }
            return a;
        }

        private int opened(int open) {
            if (open == 8) {
                throw fault(3);
            }
            at++;
            return open + 1;
        }

        private Node one(int open) {
            Token t = peek();
            if (t.number()) {
                int v = number(0, 9999);
                return n -> v;
            }
            if (t.is("(")) {
                Node a = sum(opened(open));
                want(")");
                return a;
            }
            if (t.is("-")) {
                Node a = one(opened(open));
                return n -> -a.work(n);
            }
            if (t.is("if")) {
                int in = opened(open);
                Node c = either(in);
                want("?");
                Node a = sum(in);
                want(":");
                Node b = sum(in);
                want("end");
                return n -> c.work(n) != 0 ? a.work(n) : b.work(n);
            }
            int name = List.of("day", "table", "dawn", "sister", "appetite", "left").indexOf(t.word());
            if (name < 0) {
                throw fault(1);
            }
            if (!allowed.contains(t.word())) {
                throw fault(5);
            }
            at++;
            return n -> n[name];
        }

        private Node either(int open) {
            Node a = both(open);
            while (peek().is("or")) {
                at++;
                Node l = a;
                Node r = both(open);
                a = n -> Math.max(l.work(n), r.work(n));
            }
            return a;
        }

        private Node both(int open) {
            Node a = ask(open);
            while (peek().is("and")) {
                at++;
                Node l = a;
                Node r = ask(open);
                a = n -> Math.min(l.work(n), r.work(n));
            }
            return a;
        }

        private Node ask(int open) {
            if (peek().is("not")) {
                Node a = ask(opened(open));
                return n -> a.work(n) == 0 ? 1 : 0;
            }
            Node l = sum(open);
            String op = peek().word();
            if (!List.of("<", "<=", ">", ">=", "=", "#").contains(op)) {
                throw fault(1);
            }
            at++;
            Node r = sum(open);
            return n -> {
                int c = Long.compare(l.work(n), r.work(n));
                boolean yes = op.equals("<") ? c < 0 : op.equals("<=") ? c <= 0 : op.equals(">") ? c > 0
                    : op.equals(">=") ? c >= 0 : op.equals("=") ? c == 0 : c != 0;
                return yes ? 1 : 0;
            };
        }
    }

    /** What a STEP changes. */
    private static final class Moves {
        int[] day = {0, 0};
        int[] left = {12, 12};
        int[] hidden = {0, 0};
        int[] seat = {2, 2, 2, 2, 2, 2};
        int dawn = 0;
        int x = 11;

        Moves copy() {
            Moves c = new Moves();
            c.day = day.clone();
            c.left = left.clone();
            c.hidden = hidden.clone();
            c.seat = seat.clone();
            c.dawn = dawn;
            c.x = x;
            return c;
        }
    }

    /** What an image keeps. */
    private static final class All {
        Moves moves = new Moves();
        List<Integer> sisters = new ArrayList<>();
        List<Script> texts = new ArrayList<>();
        List<Moves> steps = new ArrayList<>();
        List<Integer> seen = new ArrayList<>();
        int mice = 0;
        int ruling = -1;

        All copy() {
            All c = new All();
            c.moves = moves.copy();
            c.sisters = new ArrayList<>(sisters);
            c.texts = new ArrayList<>(texts);
            c.steps = new ArrayList<>(steps);
            c.seen = new ArrayList<>(seen);
            c.mice = mice;
            c.ruling = ruling;
            return c;
        }
    }

    private static final class Model {
        All s = new All();
        All image = s.copy();
        StringBuilder tape = new StringBuilder();
        int fault = -1;
        int place = -1;

        int sister(int appetite) {
            if (appetite < 0 || appetite > 9 || s.sisters.size() == 6) {
                return -1;
            }
            s.sisters.add(appetite);
            return s.sisters.size() - 1;
        }

        boolean mice(int of10) {
            if (of10 < 0 || of10 > 10) {
                return false;
            }
            s.mice = of10;
            return true;
        }

        boolean seed(int seed) {
            if (seed < 0 || seed > 9999) {
                return false;
            }
            s.moves.x = seed * 3 + 11;
            return true;
        }

        int feed(int... words) {
            if (tape.length() > 280) {
                return -1;
            }
            for (int w : words) {
                for (int i = 3; i >= 0; i--) {
                    tape.append((char) (w >>> 8 * i & 255));
                }
            }
            return tape.length();
        }

        int end(int n) {
            if (n < 0 || n > tape.length()) {
                return -1;
            }
            tape.setLength(n);
            return n;
        }

        int text() {
            if (s.texts.size() == 4) {
                return -1;
            }
            String t = tape.toString();
            tape.setLength(0);
            try {
                s.texts.add(new Script(t));
                fault = 0;
                place = -1;
                return s.texts.size() - 1;
            } catch (Fault f) {
                fault = f.number;
                place = f.place;
                return -1;
            }
        }

        int fault(int what) {
            return what == 0 ? fault : what == 1 ? place : -1;
        }

        boolean by(int text) {
            if (text < -1 || text >= s.texts.size()) {
                return false;
            }
            s.ruling = text;
            return true;
        }

        boolean bad(int table, int day) {
            return table < 0 || table > 1 || day < 0 || day > 999;
        }

        int slicesOf(int table, int day, int dawn) {
            Node law = s.ruling < 0 ? null : s.texts.get(s.ruling).slices;
            if (law == null) {
                return 12;
            }
            return (int) Math.max(1, Math.min(60, law.work(new long[] {day, table, dawn})));
        }

        int eatsOf(int sister, int table, int day, int dawn, int left) {
            Node law = s.ruling < 0 ? null : s.texts.get(s.ruling).eats;
            long eats = s.sisters.get(sister);
            if (law != null) {
                eats = law.work(new long[] {day, table, dawn, sister, eats, left});
            }
            return (int) Math.min(left, Math.max(0, Math.min(9, eats)));
        }

        int slices(int table, int day) {
            return bad(table, day) ? -1 : slicesOf(table, day, s.moves.dawn);
        }

        void step() {
            s.steps.add(s.moves.copy());
            if (s.steps.size() > 30) {
                s.steps.remove(0);
            }
        }

        boolean seat(int sister, int seat) {
            if (sister < 0 || sister >= s.sisters.size() || seat < 0 || seat > 2 || s.moves.seat[sister] == seat) {
                return false;
            }
            step();
            s.moves.seat[sister] = seat;
            return true;
        }

        int hide(int table, int k) {
            if (table < 0 || table > 1 || k < 1 || k > 9 || s.moves.left[table] < k) {
                return -1;
            }
            step();
            s.moves.hidden[table] += k;
            return s.moves.left[table] -= k;
        }

        int give(int table, int k) {
            if (table < 0 || table > 1 || k < 1 || k > 9 || s.moves.hidden[table] < k) {
                return -1;
            }
            step();
            s.moves.hidden[table] -= k;
            return s.moves.left[table] += k;
        }

        /** A DAWN at one table of these moves, whose DAWN is told already; mice do not come. */
        int eatAt(Moves m, int table) {
            if (m.left[table] + m.hidden[table] == 0 && m.day[table] != 999) {
                m.day[table]++;
                m.left[table] = slicesOf(table, m.day[table], m.dawn);
            }
            int eaten = 0;
            for (int i = 0; i < s.sisters.size(); i++) {
                if (m.seat[i] == table) {
                    int e = eatsOf(i, table, m.day[table], m.dawn, m.left[table]);
                    eaten += e;
                    m.left[table] -= e;
                }
            }
            return eaten;
        }

        int pass(int dawns) {
            if (dawns < 1 || dawns > 99 || s.moves.dawn + dawns > 999) {
                return -1;
            }
            int eaten = 0;
            for (int i = 0; i < dawns; i++) {
                step();
                Moves m = s.moves;
                m.dawn++;
                for (int t = 0; t < 2; t++) {
                    eaten += eatAt(m, t);
                    if (m.x % 10 < s.mice && m.left[t] > 0) {
                        m.left[t]--;
                        eaten++;
                    }
                    m.x = (m.x * 173 + 79) % 30089;
                }
            }
            return eaten;
        }

        int played(int text) {
            if (text < 0 || text >= s.texts.size()) {
                return -2;
            }
            List<int[]> clauses = s.texts.get(text).clauses;
            for (int i = 0; i < clauses.size(); i++) {
                int[] c = clauses.get(i);
                boolean done = c[0] < 0 || (c[0] == 1 ? seat(c[1], c[2]) : c[0] == 2 ? hide(c[2], c[1]) >= 0
                    : c[0] == 3 ? give(c[2], c[1]) >= 0 : pass(c[1]) >= 0);
                if (!done) {
                    return i;
                }
            }
            return -1;
        }

        int undo() {
            if (s.steps.isEmpty()) {
                return -1;
            }
            s.moves = s.steps.remove(s.steps.size() - 1).copy();
            return s.steps.size();
        }

        int of(int table, int what) {
            if (table < 0 || table > 1) {
                return -1;
            }
            int bits = 0;
            for (int i = 0; i < s.sisters.size(); i++) {
                bits += s.moves.seat[i] == table ? 1 << i : 0;
            }
            return what == 0 ? s.moves.day[table] : what == 1 ? s.moves.left[table] : what == 2 ? s.moves.hidden[table] : what == 3 ? bits : -1;
        }

        int sisterOf(int sister, int what) {
            if (sister < 0 || sister >= s.sisters.size() || what < 0 || what > 2) {
                return -1;
            }
            int seat = s.moves.seat[sister];
            if (what == 2) {
                return seat == 2 ? 0 : eatsOf(sister, seat, s.moves.day[seat], s.moves.dawn, s.moves.left[seat]);
            }
            return what == 0 ? s.sisters.get(sister) : seat;
        }

        int comes(int table, int day, boolean latest) {
            if (bad(table, day)) {
                return -1;
            }
            Moves m = s.moves.copy();
            int n = 0;
            while (m.day[table] < day) {
                if (++n > 60) {
                    return -1;
                }
                m.dawn++;
                eatAt(m, table);
                if (!latest) {
                    m.left[table] = Math.max(0, m.left[table] - 1);
                }
            }
            return n;
        }

        long odds(int table, int day, int n, int what) {
            if (bad(table, day) || n < 0 || n > 15 || what < 0 || what > 1) {
                return -1;
            }
            BigInteger upper = chances(s.moves, table, day, n);
            BigInteger lower = BigInteger.TEN.pow(n);
            BigInteger g = upper.gcd(lower);
            return (what == 0 ? upper : lower).divide(g).longValueExact();
        }

        BigInteger chances(Moves from, int table, int day, int n) {
            if (n == 0) {
                return from.day[table] >= day ? BigInteger.ONE : BigInteger.ZERO;
            }
            Moves m = from.copy();
            m.dawn++;
            eatAt(m, table);
            BigInteger without = s.mice == 10 ? BigInteger.ZERO : chances(m, table, day, n - 1);
            if (m.left[table] > 0) {
                m.left[table]--;
            }
            BigInteger with = s.mice == 0 ? BigInteger.ZERO : chances(m, table, day, n - 1);
            return without.multiply(BigInteger.valueOf(10 - s.mice)).add(with.multiply(BigInteger.valueOf(s.mice)));
        }

        int apart(int n) {
            if (n < 0 || n > 60) {
                return -1000;
            }
            Moves m = s.moves.copy();
            for (int i = 0; i < n; i++) {
                m.dawn++;
                eatAt(m, 0);
                eatAt(m, 1);
            }
            return m.day[0] - m.day[1];
        }

        int flour(int table, int from, int to) {
            if (bad(table, from) || bad(table, to) || to < from) {
                return -1;
            }
            int all = 0;
            for (int d = from; d <= to; d++) {
                all += slices(table, d);
            }
            return all;
        }

        /** All seats of all, the lowest rows of seats first. */
        int saint(int table, int day, int n, int sister) {
            if (bad(table, day) || n < 1 || n > 30 || sister < -1 || sister >= s.sisters.size()) {
                return -1;
            }
            int count = s.sisters.size();
            int rows = (int) Math.round(Math.pow(3, count));
            int fewest = 99;
            int[] best = null;
            for (int r = 0; r < rows; r++) {
                Moves m = s.moves.copy();
                int changes = 0;
                int rest = r;
                for (int i = count - 1; i >= 0; i--) {
                    m.seat[i] = rest % 3;
                    rest /= 3;
                    changes += m.seat[i] != s.moves.seat[i] ? 1 : 0;
                }
                if (changes < fewest && just(m, table, day, n)) {
                    fewest = changes;
                    best = m.seat.clone();
                }
            }
            if (best == null) {
                return -1;
            }
            return sister == -1 ? fewest : best[sister];
        }

        boolean just(Moves from, int table, int day, int n) {
            Moves m = from.copy();
            for (int i = 0; i < n; i++) {
                if (m.day[table] >= day) {
                    return false;
                }
                m.dawn++;
                eatAt(m, table);
            }
            return m.day[table] >= day;
        }

        int seen(int left) {
            if (left == -1) {
                s.seen.clear();
                return 0;
            }
            if (left < 0 || left > 60 || s.seen.size() == 8) {
                return -2;
            }
            s.seen.add(left);
            return s.seen.size();
        }

        int[] leftBy(int table, int day, int set, int dawns) {
            int[] out = new int[dawns];
            int left = slicesOf(table, day, s.moves.dawn + 1);
            for (int i = 1; i <= dawns; i++) {
                for (int k = 0; k < s.sisters.size(); k++) {
                    if ((set >> k & 1) == 1) {
                        left -= eatsOf(k, table, day, s.moves.dawn + i, left);
                    }
                }
                out[i - 1] = left;
            }
            return out;
        }

        int who(int table, int day, int i) {
            if (bad(table, day) || i < -1) {
                return -1;
            }
            List<Integer> sets = new ArrayList<>();
            int[] due = s.seen.stream().mapToInt(v -> v).toArray();
            for (int set = 0; set < 1 << s.sisters.size(); set++) {
                if (Arrays.equals(leftBy(table, day, set, due.length), due)) {
                    sets.add(set);
                }
            }
            return i == -1 ? sets.size() : i < sets.size() ? sets.get(i) : -1;
        }

        int image() {
            image = s.copy();
            return s.moves.dawn;
        }

        int back() {
            s = image.copy();
            return s.moves.dawn;
        }

        int about(int what) {
            int[] all = {s.sisters.size(), s.moves.dawn, s.mice, s.moves.x, s.texts.size(), s.ruling, s.steps.size(), s.seen.size(), tape.length()};
            return what < 0 || what > 8 ? -2 : all[what];
        }
    }
}
