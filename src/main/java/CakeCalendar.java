import java.util.Arrays;

/** A convent whose two tables tell days by cakes. The document DOC.md numbers what each call promises. */
public final class CakeCalendar {
    public static final int NONE = -1;

    private static final int TABLES = 2;
    private static final int SISTERS_MOST = 6;
    private static final int TEXTS_MOST = 4;
    private static final int STEPS_MOST = 30;
    private static final int SEEN_MOST = 8;
    private static final int TAPE_MOST = 300;
    private static final int CLAUSES_MOST = 24;
    private static final int OPEN_MOST = 8;
    private static final int DAY_LAST = 999;
    private static final int DAWN_LAST = 999;
    private static final int SLICES_MOST = 60;
    private static final int SLICES_PLAIN = 12;
    private static final int EATS_MOST = 9;
    private static final int NUMBER_LAST = 9999;
    private static final int SUM_LAST = 1000000;
    private static final int FASTS = 2;
    private static final int FORESEEN_MOST = 60;
    private static final int ODDS_DAWNS_MOST = 15;
    private static final int SAINT_DAWNS_MOST = 30;
    private static final int OTHERS = -2;
    private static final int NEVER_APART = -1000;

    private final Convent now = new Convent();
    private final Convent kept = new Convent();
    private final Text[] texts = new Text[TEXTS_MOST];
    private final Kitchen kitchen = new Kitchen(now);
    private final Foresight foresight = new Foresight(now, kitchen);
    private final Tokens tape = new Tokens();
    private final Parser parser = new Parser(tape);

    public CakeCalendar() {
        for (int i = 0; i < TEXTS_MOST; i++) {
            texts[i] = new Text();
        }
    }

    public int sister(int appetite) {
        if (appetite < 0 || appetite > 9) {
            return NONE;
        }
        return now.tellSister(appetite);
    }

    public boolean mice(int of10) {
        if (of10 < 0 || of10 > 10) {
            return false;
        }
        now.mice = of10;
        return true;
    }

    public boolean seed(int seed) {
        if (seed < 0 || seed > 9999) {
            return false;
        }
        now.put(Convent.X, seed * 3 + 11);
        return true;
    }

    public int feed(int a, int b, int c, int d, int e) {
        if (tape.length + 20 > TAPE_MOST) {
            return NONE;
        }
        tape.addWord(a);
        tape.addWord(b);
        tape.addWord(c);
        tape.addWord(d);
        tape.addWord(e);
        return tape.length;
    }

    public int end(int n) {
        if (n < 0 || n > tape.length) {
            return NONE;
        }
        tape.length = n;
        return n;
    }

    public int text() {
        Text room = textAt(now.texts);
        if (room == null) {
            return NONE;
        }
        boolean sound = parser.parse(room);
        tape.length = 0;
        if (!sound) {
            return NONE;
        }
        now.texts++;
        return now.texts - 1;
    }

    public int fault(int what) {
        if (!parser.used) {
            return NONE;
        }
        if (what == 0) {
            return parser.fault;
        }
        return what == 1 ? parser.place : NONE;
    }

    public boolean by(int text) {
        if (text < NONE || text >= now.texts) {
            return false;
        }
        now.ruling = text;
        kitchen.law = textAt(text);
        return true;
    }

    public int slices(int table, int day) {
        if (!isTable(table) || !isDay(day)) {
            return NONE;
        }
        return kitchen.slicesAt(table, day, now.get(Convent.DAWN));
    }

    public boolean seat(int sister, int seat) {
        if (!isSister(sister) || seat < 0 || seat > FASTS || now.seatOf(sister) == seat) {
            return false;
        }
        now.remember();
        now.put(Convent.SEATS + sister, seat);
        return true;
    }

    public int hide(int table, int k) {
        if (!isTable(table) || !moved(Convent.leftAt(table), Convent.hiddenAt(table), k)) {
            return NONE;
        }
        return now.get(Convent.leftAt(table));
    }

    public int give(int table, int k) {
        if (!isTable(table) || !moved(Convent.hiddenAt(table), Convent.leftAt(table), k)) {
            return NONE;
        }
        return now.get(Convent.leftAt(table));
    }

    public int pass(int dawns) {
        if (dawns < 1 || dawns > 99 || now.get(Convent.DAWN) + dawns > DAWN_LAST) {
            return NONE;
        }
        int eaten = 0;
        for (int i = 0; i < dawns; i++) {
            eaten += kitchen.dawnForAll();
        }
        return eaten;
    }

    public int played(int text) {
        Text script = text < now.texts ? textAt(text) : null;
        if (script == null) {
            return OTHERS;
        }
        for (int i = 0; i < script.clauses && i < CLAUSES_MOST; i++) {
            int first = script.firsts[i];
            int second = script.seconds[i];
            boolean can = true;
            switch (script.kinds[i]) {
                case Tokens.SEAT:
                    can = seat(first, second);
                    break;
                case Tokens.HIDE:
                    can = hide(second, first) != NONE;
                    break;
                case Tokens.GIVE:
                    can = give(second, first) != NONE;
                    break;
                case Tokens.PASS:
                    can = pass(first) != NONE;
                    break;
                default:
                    break;
            }
            if (!can) {
                return i;
            }
        }
        return NONE;
    }

    public int undo() {
        return now.takeBack();
    }

    public int of(int table, int what) {
        if (!isTable(table)) {
            return NONE;
        }
        switch (what) {
            case 0:
                return now.get(Convent.dayAt(table));
            case 1:
                return now.get(Convent.leftAt(table));
            case 2:
                return now.get(Convent.hiddenAt(table));
            case 3:
                return now.sitters(table);
            default:
                return NONE;
        }
    }

    public int sisterOf(int sister, int what) {
        if (!isSister(sister)) {
            return NONE;
        }
        switch (what) {
            case 0:
                return now.appetiteOf(sister);
            case 1:
                return now.seatOf(sister);
            case 2:
                return kitchen.wouldEat(sister);
            default:
                return NONE;
        }
    }

    public int comes(int table, int day, boolean latest) {
        if (!isTable(table) || !isDay(day)) {
            return NONE;
        }
        return foresight.dawnsUntil(table, day, latest);
    }

    public long odds(int table, int day, int n, int what) {
        if (!isTable(table) || !isDay(day) || n < 0 || n > ODDS_DAWNS_MOST || what < 0 || what > 1) {
            return NONE;
        }
        long upper = foresight.weightOfDay(table, day, n);
        long lower = Foresight.powerOfTen(n);
        long common = Foresight.commonDivisor(upper, lower);
        if (common == 0) {
            return NONE;
        }
        return what == 0 ? upper / common : lower / common;
    }

    public int apart(int n) {
        if (n < 0 || n > FORESEEN_MOST) {
            return NEVER_APART;
        }
        return foresight.dayAfter(0, n) - foresight.dayAfter(1, n);
    }

    public int flour(int table, int from, int to) {
        if (!isTable(table) || !isDay(from) || !isDay(to) || from > to) {
            return NONE;
        }
        int dawn = now.get(Convent.DAWN);
        int all = 0;
        for (int day = from; day <= to; day++) {
            all += kitchen.slicesAt(table, day, dawn);
        }
        return all;
    }

    public int saint(int table, int day, int n, int sister) {
        if (!isTable(table) || !isDay(day) || n < 1 || n > SAINT_DAWNS_MOST) {
            return NONE;
        }
        if (sister != NONE && !isSister(sister)) {
            return NONE;
        }
        int changes = foresight.fewestChanges(table, day, n);
        if (changes == NONE || sister == NONE) {
            return changes;
        }
        return foresight.bestSeat(sister);
    }

    public int seen(int left) {
        if (left == NONE) {
            now.seenCount = 0;
            return 0;
        }
        if (left < 0 || left > SLICES_MOST || now.seenCount < 0 || now.seenCount >= SEEN_MOST) {
            return OTHERS;
        }
        now.seen[now.seenCount] = left;
        now.seenCount++;
        return now.seenCount;
    }

    public int who(int table, int day, int i) {
        if (!isTable(table) || !isDay(day) || i < NONE) {
            return NONE;
        }
        return foresight.nibblers(table, day, i);
    }

    public int image() {
        kept.copyFrom(now);
        return now.get(Convent.DAWN);
    }

    public int back() {
        now.copyFrom(kept);
        kitchen.law = textAt(now.ruling);
        return now.get(Convent.DAWN);
    }

    public int about(int what) {
        switch (what) {
            case 0:
                return now.sisters;
            case 1:
                return now.get(Convent.DAWN);
            case 2:
                return now.mice;
            case 3:
                return now.get(Convent.X);
            case 4:
                return now.texts;
            case 5:
                return now.ruling;
            case 6:
                return now.steps;
            case 7:
                return now.seenCount;
            case 8:
                return tape.length;
            default:
                return OTHERS;
        }
    }

    private static boolean isTable(int table) {
        return table >= 0 && table < TABLES;
    }

    private static boolean isDay(int day) {
        return day >= 0 && day <= DAY_LAST;
    }

    private boolean isSister(int sister) {
        return sister >= 0 && sister < now.sisters;
    }

    private Text textAt(int text) {
        return text >= 0 && text < TEXTS_MOST ? texts[text] : null;
    }

    private boolean moved(int from, int to, int k) {
        if (k < 1 || k > 9 || now.get(from) < k) {
            return false;
        }
        now.remember();
        now.put(from, now.get(from) - k);
        now.put(to, now.get(to) + k);
        return true;
    }

    /** All that an image keeps. What a STEP can change stands in one row, so that a STEP is taken back by one copy. */
    private static final class Convent {
        static final int SEATS = 6;
        static final int DAWN = 12;
        static final int X = 13;
        static final int ROW = 14;

        private final int[] row = new int[ROW];
        private final int[] rowsAhead = new int[ROW * STEPS_MOST];
        private int nextStep = 0;
        int steps = 0;
        private final int[] appetites = new int[SISTERS_MOST];
        int sisters = 0;
        int mice = 0;
        int texts = 0;
        int ruling = NONE;
        final int[] seen = new int[SEEN_MOST];
        int seenCount = 0;

        Convent() {
            row[leftAt(0)] = SLICES_PLAIN;
            row[leftAt(1)] = SLICES_PLAIN;
            for (int i = 0; i < SISTERS_MOST; i++) {
                row[SEATS + i] = FASTS;
            }
            row[X] = 11;
        }

        static int dayAt(int table) {
            return table == 0 ? 0 : 3;
        }

        static int leftAt(int table) {
            return table == 0 ? 1 : 4;
        }

        static int hiddenAt(int table) {
            return table == 0 ? 2 : 5;
        }

        int get(int place) {
            return place >= 0 && place < ROW ? row[place] : 0;
        }

        void put(int place, int value) {
            if (place >= 0 && place < ROW) {
                row[place] = value;
            }
        }

        int seatOf(int sister) {
            return sister >= 0 && sister < SISTERS_MOST ? row[SEATS + sister] : FASTS;
        }

        int appetiteOf(int sister) {
            return sister >= 0 && sister < SISTERS_MOST ? appetites[sister] : 0;
        }

        int tellSister(int appetite) {
            if (sisters < 0 || sisters >= SISTERS_MOST) {
                return NONE;
            }
            appetites[sisters] = appetite;
            row[SEATS + sisters] = FASTS;
            sisters++;
            return sisters - 1;
        }

        int sitters(int table) {
            int bits = 0;
            for (int i = 0; i < sisters; i++) {
                if (seatOf(i) == table) {
                    bits |= 1 << i;
                }
            }
            return bits;
        }

        void remember() {
            if (nextStep < 0 || nextStep >= STEPS_MOST) {
                return;
            }
            System.arraycopy(row, 0, rowsAhead, nextStep * ROW, ROW);
            nextStep = (nextStep + 1) % STEPS_MOST;
            steps = Math.min(steps + 1, STEPS_MOST);
        }

        int takeBack() {
            if (steps <= 0 || nextStep < 0 || nextStep >= STEPS_MOST) {
                return NONE;
            }
            int latest = nextStep == 0 ? STEPS_MOST - 1 : nextStep - 1;
            System.arraycopy(rowsAhead, latest * ROW, row, 0, ROW);
            nextStep = latest;
            steps--;
            return steps;
        }

        void copyFrom(Convent other) {
            System.arraycopy(other.row, 0, row, 0, ROW);
            System.arraycopy(other.rowsAhead, 0, rowsAhead, 0, ROW * STEPS_MOST);
            nextStep = other.nextStep;
            steps = other.steps;
            System.arraycopy(other.appetites, 0, appetites, 0, SISTERS_MOST);
            sisters = other.sisters;
            mice = other.mice;
            texts = other.texts;
            ruling = other.ruling;
            System.arraycopy(other.seen, 0, seen, 0, SEEN_MOST);
            seenCount = other.seenCount;
        }
    }

    /** One table's cake, apart from the convent, so that dawns can be tried without being done. */
    private static final class Cake {
        int table = 0;
        int day = 0;
        int left = 0;
        int hidden = 0;
        int dawn = 0;

        void loadFrom(Convent convent, int from) {
            table = from;
            day = convent.get(Convent.dayAt(from));
            left = convent.get(Convent.leftAt(from));
            hidden = convent.get(Convent.hiddenAt(from));
            dawn = convent.get(Convent.DAWN);
        }

        boolean loseSlice() {
            if (left <= 0) {
                return false;
            }
            left--;
            return true;
        }
    }

    /** Bakes and eats by THE TEXT's laws. */
    private static final class Kitchen {
        private final Convent convent;
        private final Cake cake = new Cake();
        private final Sums sums = new Sums();
        Text law = null;

        Kitchen(Convent convent) {
            this.convent = convent;
        }

        int slicesAt(int table, int day, int dawn) {
            if (law == null || !law.hasSlices()) {
                return SLICES_PLAIN;
            }
            sums.tell(day, table, dawn);
            return Math.max(1, Math.min(SLICES_MOST, sums.worked(law, law.slicesFrom, law.slicesTo)));
        }

        /** The SISTERS of the set eat by number: how many slices. */
        int eatenBy(int set, Cake from) {
            int before = from.left;
            boolean ruled = law != null && law.hasEats();
            sums.tell(from.day, from.table, from.dawn);
            for (int i = 0; i < SISTERS_MOST; i++) {
                if ((set >> i & 1) == 0) {
                    continue;
                }
                int wants = convent.appetiteOf(i);
                if (ruled) {
                    sums.tellEater(i, wants, from.left);
                    wants = Math.max(0, Math.min(EATS_MOST, sums.worked(law, law.eatsFrom, law.eatsTo)));
                }
                from.left -= Math.min(wants, from.left);
            }
            return before - from.left;
        }

        /** A DAWN at one table, without the mice: how many slices are eaten. */
        int dawnAt(Cake one, int set) {
            one.dawn++;
            if (one.left == 0 && one.hidden == 0 && one.day < DAY_LAST) {
                one.day++;
                one.left = slicesAt(one.table, one.day, one.dawn);
            }
            return eatenBy(set, one);
        }

        /** A DAWN that is done, as a STEP: how many slices are eaten, by mice too. */
        int dawnForAll() {
            convent.remember();
            int eaten = 0;
            int dawn = convent.get(Convent.DAWN);
            for (int table = 0; table < TABLES; table++) {
                cake.loadFrom(convent, table);
                eaten += dawnAt(cake, convent.sitters(table));
                if (drawnForMice() && cake.loseSlice()) {
                    eaten++;
                }
                convent.put(Convent.dayAt(table), cake.day);
                convent.put(Convent.leftAt(table), cake.left);
            }
            convent.put(Convent.DAWN, dawn + 1);
            return eaten;
        }

        private boolean drawnForMice() {
            int x = convent.get(Convent.X);
            convent.put(Convent.X, (x * 173 + 79) % 30089);
            return x % 10 < convent.mice;
        }

        int wouldEat(int sister) {
            int seat = convent.seatOf(sister);
            if (seat == FASTS) {
                return 0;
            }
            cake.loadFrom(convent, seat);
            return eatenBy(1 << sister, cake);
        }
    }

    /** What would be, by dawns that are tried on a cake apart. */
    private static final class Foresight {
        static final int LEFTS = SLICES_MOST + 1;
        static final int CHANCES = (ODDS_DAWNS_MOST + 1) * LEFTS;

        private final Convent convent;
        private final Kitchen kitchen;
        private final Cake cake = new Cake();
        private final int[] tried = new int[SISTERS_MOST];
        private final int[] best = new int[SISTERS_MOST];
        private long[] chances = new long[CHANCES];
        private long[] chancesAfter = new long[CHANCES];

        Foresight(Convent convent, Kitchen kitchen) {
            this.convent = convent;
            this.kitchen = kitchen;
        }

        int dawnsUntil(int table, int day, boolean latest) {
            cake.loadFrom(convent, table);
            int set = convent.sitters(table);
            for (int dawns = 0; dawns <= FORESEEN_MOST; dawns++) {
                if (cake.day >= day) {
                    return dawns;
                }
                kitchen.dawnAt(cake, set);
                if (!latest) {
                    cake.loseSlice();
                }
            }
            return NONE;
        }

        int dayAfter(int table, int dawns) {
            cake.loadFrom(convent, table);
            int set = convent.sitters(table);
            for (int i = 0; i < dawns; i++) {
                kitchen.dawnAt(cake, set);
            }
            return cake.day;
        }

        /** Of 10 to the n draws, all alike, how many bring the table to the day. */
        long weightOfDay(int table, int day, int n) {
            cake.loadFrom(convent, table);
            int firstDay = cake.day;
            Arrays.fill(chances, 0L);
            addChance(chances, 0, cake.left, 1L);
            for (int i = 0; i < n; i++) {
                spreadChances(table, firstDay, i);
            }
            long weight = 0;
            for (int at = 0; at < CHANCES; at++) {
                if (firstDay + at / LEFTS >= day) {
                    weight += chances[at];
                }
            }
            return weight;
        }

        private void spreadChances(int table, int firstDay, int dawnsGone) {
            Arrays.fill(chancesAfter, 0L);
            int set = convent.sitters(table);
            int mice = convent.mice;
            for (int at = 0; at < CHANCES; at++) {
                long weight = chances[at];
                if (weight == 0) {
                    continue;
                }
                cake.loadFrom(convent, table);
                cake.day = firstDay + at / LEFTS;
                cake.left = at % LEFTS;
                cake.dawn += dawnsGone;
                kitchen.dawnAt(cake, set);
                addChance(chancesAfter, cake.day - firstDay, cake.left, weight * (10 - mice));
                cake.loseSlice();
                addChance(chancesAfter, cake.day - firstDay, cake.left, weight * mice);
            }
            long[] old = chances;
            chances = chancesAfter;
            chancesAfter = old;
        }

        private static void addChance(long[] to, int daysOn, int left, long weight) {
            int at = daysOn * LEFTS + left;
            if (at >= 0 && at < to.length) {
                to[at] += weight;
            }
        }

        static long powerOfTen(int n) {
            long power = 1;
            for (int i = 0; i < n; i++) {
                power *= 10;
            }
            return power;
        }

        static long commonDivisor(long a, long b) {
            long high = a;
            long low = b;
            for (int i = 0; i < 200 && low != 0; i++) {
                long rest = high % low;
                high = low;
                low = rest;
            }
            return high;
        }

        /**
         * Only who sits at the table counts there, so sets are tried, not all seats: who need not move keeps her
         * seat, who must leave takes the lowest other one.
         */
        int fewestChanges(int table, int day, int n) {
            int fewest = NONE;
            int sets = 1 << Math.min(convent.sisters, SISTERS_MOST);
            for (int set = 0; set < sets; set++) {
                int changes = trySeats(table, set);
                boolean better = fewest == NONE || changes < fewest || changes == fewest && triedIsLower();
                if (better && comesJustAfter(table, set, day, n)) {
                    fewest = changes;
                    System.arraycopy(tried, 0, best, 0, SISTERS_MOST);
                }
            }
            return fewest;
        }

        int bestSeat(int sister) {
            return sister >= 0 && sister < SISTERS_MOST ? best[sister] : NONE;
        }

        private int trySeats(int table, int set) {
            int changes = 0;
            for (int i = 0; i < SISTERS_MOST; i++) {
                int seat = convent.seatOf(i);
                boolean sits = (set >> i & 1) != 0;
                tried[i] = seat;
                if (sits && seat != table) {
                    tried[i] = table;
                    changes++;
                } else if (!sits && seat == table) {
                    tried[i] = table == 0 ? 1 : 0;
                    changes++;
                }
            }
            return changes;
        }

        private boolean triedIsLower() {
            for (int i = 0; i < SISTERS_MOST; i++) {
                if (tried[i] != best[i]) {
                    return tried[i] < best[i];
                }
            }
            return false;
        }

        private boolean comesJustAfter(int table, int set, int day, int n) {
            cake.loadFrom(convent, table);
            for (int i = 0; i < n; i++) {
                // A DAWN brings one DAY at most, so a table too far behind need not be followed.
                if (cake.day >= day || day - cake.day > n - i) {
                    return false;
                }
                kitchen.dawnAt(cake, set);
            }
            return cake.day >= day;
        }

        /** The i-th set that fits what was seen; how many, if i is NONE. */
        int nibblers(int table, int day, int i) {
            // A cake is baked at its first DAWN, and that DAWN is one more already.
            int slices = kitchen.slicesAt(table, day, convent.get(Convent.DAWN) + 1);
            int sets = 1 << Math.min(convent.sisters, SISTERS_MOST);
            int found = 0;
            for (int set = 0; set < sets; set++) {
                cake.loadFrom(convent, table);
                cake.day = day;
                cake.left = slices;
                cake.hidden = 0;
                if (fitsSeen(set)) {
                    if (found == i) {
                        return set;
                    }
                    found++;
                }
            }
            return i == NONE ? found : NONE;
        }

        private boolean fitsSeen(int set) {
            for (int i = 0; i < convent.seenCount && i < SEEN_MOST; i++) {
                cake.dawn++;
                kitchen.eatenBy(set, cake);
                if (cake.left != convent.seen[i]) {
                    return false;
                }
            }
            return true;
        }
    }

    /** Works the steps of a law on a stack. */
    private static final class Sums {
        static final int NUMBER = 0;
        static final int NAME = 1;
        static final int GO = 2;
        static final int GO_UNLESS = 3;
        static final int LESS_OF_ONE = 4;
        static final int NOT = 5;
        static final int PLUS = 6;
        static final int MINUS = 7;
        static final int TIMES = 8;
        static final int BY = 9;
        static final int BELOW = 10;
        static final int AT_MOST = 11;
        static final int ABOVE = 12;
        static final int AT_LEAST = 13;
        static final int LIKE = 14;
        static final int UNLIKE = 15;
        static final int AND = 16;
        static final int OR = 17;
        /** Each of the 8 open around one another holds at most 5 values back, and so does what is around them. */
        static final int STACK = 64;
        static final int NAMES = 6;

        private final int[] names = new int[NAMES];
        private final int[] stack = new int[STACK];

        void tell(int day, int table, int dawn) {
            names[0] = day;
            names[1] = table;
            names[2] = dawn;
        }

        void tellEater(int sister, int appetite, int left) {
            names[3] = sister;
            names[4] = appetite;
            names[5] = left;
        }

        int worked(Text text, int from, int to) {
            if (text == null || from < 0 || to > TAPE_MOST) {
                return 0;
            }
            int top = 0;
            for (int at = from; at < to; at++) {
                int op = text.ops[at];
                int arg = text.args[at];
                if (op == NUMBER || op == NAME) {
                    if (top >= STACK) {
                        return 0;
                    }
                    stack[top] = op == NUMBER ? arg : nameAt(arg);
                    top++;
                } else if (op == GO) {
                    at = Math.max(at, arg - 1);
                } else if (top < 1) {
                    return 0;
                } else if (op == GO_UNLESS) {
                    top--;
                    at = stack[top] == 0 ? Math.max(at, arg - 1) : at;
                } else if (op == LESS_OF_ONE) {
                    stack[top - 1] = -stack[top - 1];
                } else if (op == NOT) {
                    stack[top - 1] = 1 - stack[top - 1];
                } else if (top < 2) {
                    return 0;
                } else {
                    top--;
                    stack[top - 1] = held(ofTwo(op, stack[top - 1], stack[top]));
                }
            }
            return stack[0];
        }

        private int nameAt(int name) {
            return name >= 0 && name < NAMES ? names[name] : 0;
        }

        private static long ofTwo(int op, long a, long b) {
            switch (op) {
                case PLUS:
                    return a + b;
                case MINUS:
                    return a - b;
                case TIMES:
                    return a * b;
                case BY:
                    return b == 0 ? 0 : a / b;
                case BELOW:
                    return a < b ? 1 : 0;
                case AT_MOST:
                    return a <= b ? 1 : 0;
                case ABOVE:
                    return a > b ? 1 : 0;
                case AT_LEAST:
                    return a >= b ? 1 : 0;
                case LIKE:
                    return a == b ? 1 : 0;
                case UNLIKE:
                    return a != b ? 1 : 0;
                case AND:
                    return a & b;
                case OR:
                    return a | b;
                default:
                    return 0;
            }
        }

        private static int held(long value) {
            if (value > SUM_LAST) {
                return SUM_LAST;
            }
            return value < -SUM_LAST ? -SUM_LAST : (int) value;
        }
    }

    /** A TEXT that was read: its laws as steps for Sums, and all its clauses. */
    private static final class Text {
        final int[] ops = new int[TAPE_MOST];
        final int[] args = new int[TAPE_MOST];
        int length = 0;
        int slicesFrom = 0;
        int slicesTo = 0;
        int eatsFrom = 0;
        int eatsTo = 0;
        final int[] kinds = new int[CLAUSES_MOST];
        final int[] firsts = new int[CLAUSES_MOST];
        final int[] seconds = new int[CLAUSES_MOST];
        int clauses = 0;

        void clear() {
            length = 0;
            slicesFrom = 0;
            slicesTo = 0;
            eatsFrom = 0;
            eatsTo = 0;
            clauses = 0;
        }

        boolean hasSlices() {
            return slicesFrom < slicesTo;
        }

        boolean hasEats() {
            return eatsFrom < eatsTo;
        }

        void put(int op, int arg) {
            if (length >= 0 && length < TAPE_MOST) {
                ops[length] = op;
                args[length] = arg;
                length++;
            }
        }

        /** The step at this place goes on behind the steps that stand so far. */
        void aim(int at) {
            if (at >= 0 && at < TAPE_MOST) {
                args[at] = length;
            }
        }

        /** A law whose steps stand from there on to the end. */
        void addLaw(int kind, int from) {
            if (kind == Tokens.EATS) {
                eatsFrom = from;
                eatsTo = length;
            } else {
                slicesFrom = from;
                slicesTo = length;
            }
            addClause(kind, 0, 0);
        }

        void addClause(int kind, int first, int second) {
            if (clauses >= 0 && clauses < CLAUSES_MOST) {
                kinds[clauses] = kind;
                firsts[clauses] = first;
                seconds[clauses] = second;
                clauses++;
            }
        }
    }

    /** The tape, and its TOKENS one by one. A sign's kind is its byte; the other kinds have numbers of their own. */
    private static final class Tokens {
        static final int END = 0;
        static final int NO_TOKEN = 1;
        static final int NUMBER = 2;
        static final int AT_MOST = 3;
        static final int AT_LEAST = 4;
        static final String SIGNS = "<>=#+-*/();?:";
        static final String WORDS =
            "slices eats seat hide give pass at if or and not end day table dawn sister appetite left ";
        /** The kinds of words, in the order of WORDS. */
        static final int SLICES = 200;
        static final int EATS = 201;
        static final int SEAT = 202;
        static final int HIDE = 203;
        static final int GIVE = 204;
        static final int PASS = 205;
        static final int AT = 206;
        static final int IF = 207;
        static final int OR = 208;
        static final int AND = 209;
        static final int NOT = 210;
        static final int IF_END = 211;
        static final int DAY = 212;
        static final int DAWN = 214;
        static final int LEFT = 217;

        private final int[] bytes = new int[TAPE_MOST];
        int length = 0;
        int kind = END;
        int start = 0;
        int value = 0;
        private int behind = 0;

        void addWord(int word) {
            for (int shift = 24; shift >= 0; shift -= 8) {
                if (length >= 0 && length < TAPE_MOST) {
                    bytes[length] = word >> shift & 255;
                    length++;
                }
            }
        }

        void rewind() {
            behind = 0;
            advance();
        }

        private int byteAt(int place) {
            return place >= 0 && place < length && place < TAPE_MOST ? bytes[place] : END;
        }

        void advance() {
            while (behind < length && isBlank(byteAt(behind))) {
                behind++;
            }
            start = behind;
            int first = byteAt(start);
            if (start >= length) {
                kind = END;
            } else if (isLetter(first)) {
                readWord();
            } else if (isDigit(first)) {
                readNumber();
            } else {
                readSign(first);
            }
        }

        private void readWord() {
            while (behind < length && isLetter(byteAt(behind))) {
                behind++;
            }
            kind = NO_TOKEN;
            int word = SLICES;
            int from = 0;
            for (int i = 0; i < WORDS.length() && kind == NO_TOKEN; i++) {
                if (WORDS.charAt(i) == ' ') {
                    if (spells(from, i)) {
                        kind = word;
                    }
                    word++;
                    from = i + 1;
                }
            }
        }

        private boolean spells(int from, int to) {
            int count = to - from;
            if (count != behind - start || from < 0 || to > WORDS.length() || start < 0 || behind > TAPE_MOST) {
                return false;
            }
            for (int i = 0; i < count; i++) {
                if (WORDS.charAt(from + i) != bytes[start + i]) {
                    return false;
                }
            }
            return true;
        }

        private void readNumber() {
            kind = NUMBER;
            value = 0;
            while (behind < length && isDigit(byteAt(behind))) {
                // Held just above the last NUMBER, so that long rows of digits stay too high.
                value = Math.min(NUMBER_LAST + 1, value * 10 + byteAt(behind) - '0');
                behind++;
            }
        }

        private void readSign(int first) {
            behind++;
            kind = isSign(first) ? first : NO_TOKEN;
            if ((first == '<' || first == '>') && byteAt(behind) == '=') {
                behind++;
                kind = first == '<' ? AT_MOST : AT_LEAST;
            }
        }

        private static boolean isSign(int b) {
            for (int i = 0; i < SIGNS.length(); i++) {
                if (SIGNS.charAt(i) == b) {
                    return true;
                }
            }
            return false;
        }

        private static boolean isBlank(int b) {
            return b == 32 || b == 10;
        }

        private static boolean isLetter(int b) {
            return b >= 'a' && b <= 'z' || b >= 'A' && b <= 'Z';
        }

        private static boolean isDigit(int b) {
            return b >= '0' && b <= '9';
        }
    }

    /** Reads the tape into a Text, or finds its first FAULT; behind a FAULT nothing more is read. */
    private static final class Parser {
        static final int MISPLACED = 1;
        static final int BAD_NUMBER = 2;
        static final int TOO_DEEP = 3;
        static final int SECOND_TIME = 4;
        static final int NOT_ITS_NAME = 5;
        static final int TOO_MANY = 6;

        private final Tokens tokens;
        private Text out = null;
        private boolean inEats = false;
        boolean used = false;
        int fault = 0;
        int place = NONE;

        Parser(Tokens tokens) {
            this.tokens = tokens;
        }

        boolean parse(Text into) {
            if (into == null) {
                return false;
            }
            used = true;
            fault = 0;
            place = NONE;
            out = into;
            out.clear();
            tokens.rewind();
            for (int i = 0; i < TAPE_MOST && fault == 0 && tokens.kind != Tokens.END; i++) {
                readClause();
            }
            return fault == 0;
        }

        private void fail(int with) {
            if (fault == 0) {
                fault = with;
                place = tokens.start;
            }
        }

        private void take(int kind) {
            if (fault != 0) {
                return;
            }
            if (tokens.kind == kind) {
                tokens.advance();
            } else {
                fail(MISPLACED);
            }
        }

        private int takeNumber(int low, int high) {
            if (fault != 0) {
                return 0;
            }
            int value = tokens.value;
            if (tokens.kind != Tokens.NUMBER) {
                fail(MISPLACED);
            } else if (value < low || value > high) {
                fail(BAD_NUMBER);
            } else {
                tokens.advance();
            }
            return value;
        }

        private void readClause() {
            int kind = tokens.kind;
            if (kind < Tokens.SLICES || kind > Tokens.PASS) {
                fail(MISPLACED);
            } else if (kind == Tokens.SLICES && out.hasSlices() || kind == Tokens.EATS && out.hasEats()) {
                fail(SECOND_TIME);
            } else if (out.clauses >= CLAUSES_MOST) {
                fail(TOO_MANY);
            } else {
                tokens.advance();
                if (kind == Tokens.SLICES || kind == Tokens.EATS) {
                    int from = out.length;
                    inEats = kind == Tokens.EATS;
                    readSum(0);
                    out.addLaw(kind, from);
                } else {
                    readOrder(kind);
                }
                take(';');
            }
        }

        private void readOrder(int kind) {
            if (kind == Tokens.PASS) {
                out.addClause(kind, takeNumber(1, 99), 0);
                return;
            }
            boolean seats = kind == Tokens.SEAT;
            int first = seats ? takeNumber(0, SISTERS_MOST - 1) : takeNumber(1, 9);
            take(Tokens.AT);
            int second = takeNumber(0, seats ? FASTS : TABLES - 1);
            out.addClause(kind, first, second);
        }

        private void readSum(int open) {
            readProduct(open);
            for (int i = 0; i < TAPE_MOST && fault == 0 && (tokens.kind == '+' || tokens.kind == '-'); i++) {
                int op = tokens.kind == '+' ? Sums.PLUS : Sums.MINUS;
                tokens.advance();
                readProduct(open);
                out.put(op, 0);
            }
        }

        private void readProduct(int open) {
            readOne(open);
            for (int i = 0; i < TAPE_MOST && fault == 0 && (tokens.kind == '*' || tokens.kind == '/'); i++) {
                int op = tokens.kind == '*' ? Sums.TIMES : Sums.BY;
                tokens.advance();
                readOne(open);
                out.put(op, 0);
            }
        }

        private void readOne(int open) {
            if (fault != 0) {
                return;
            }
            int kind = tokens.kind;
            if (kind == Tokens.NUMBER) {
                out.put(Sums.NUMBER, takeNumber(0, NUMBER_LAST));
            } else if (kind >= Tokens.DAY && kind <= Tokens.LEFT) {
                readName(kind);
            } else if (kind != '(' && kind != '-' && kind != Tokens.IF) {
                fail(MISPLACED);
            } else if (opens(open)) {
                if (kind == '(') {
                    readSum(open + 1);
                    take(')');
                } else if (kind == '-') {
                    readOne(open + 1);
                    out.put(Sums.LESS_OF_ONE, 0);
                } else {
                    readIf(open + 1);
                }
            }
        }

        private void readName(int kind) {
            if (kind > Tokens.DAWN && !inEats) {
                fail(NOT_ITS_NAME);
                return;
            }
            out.put(Sums.NAME, kind - Tokens.DAY);
            tokens.advance();
        }

        private boolean opens(int open) {
            if (open >= OPEN_MOST) {
                fail(TOO_DEEP);
                return false;
            }
            tokens.advance();
            return true;
        }

        private void readIf(int open) {
            readEither(open);
            take('?');
            int toOther = out.length;
            out.put(Sums.GO_UNLESS, 0);
            readSum(open);
            take(':');
            int toEnd = out.length;
            out.put(Sums.GO, 0);
            out.aim(toOther);
            readSum(open);
            out.aim(toEnd);
            take(Tokens.IF_END);
        }

        private void readEither(int open) {
            readBoth(open);
            for (int i = 0; i < TAPE_MOST && fault == 0 && tokens.kind == Tokens.OR; i++) {
                tokens.advance();
                readBoth(open);
                out.put(Sums.OR, 0);
            }
        }

        private void readBoth(int open) {
            readAsk(open);
            for (int i = 0; i < TAPE_MOST && fault == 0 && tokens.kind == Tokens.AND; i++) {
                tokens.advance();
                readAsk(open);
                out.put(Sums.AND, 0);
            }
        }

        private void readAsk(int open) {
            if (fault != 0) {
                return;
            }
            if (tokens.kind == Tokens.NOT) {
                if (opens(open)) {
                    readAsk(open + 1);
                    out.put(Sums.NOT, 0);
                }
                return;
            }
            readSum(open);
            int op = comparison(tokens.kind);
            if (op == NONE) {
                fail(MISPLACED);
                return;
            }
            if (fault == 0) {
                tokens.advance();
                readSum(open);
                out.put(op, 0);
            }
        }

        private static int comparison(int kind) {
            switch (kind) {
                case '<':
                    return Sums.BELOW;
                case Tokens.AT_MOST:
                    return Sums.AT_MOST;
                case '>':
                    return Sums.ABOVE;
                case Tokens.AT_LEAST:
                    return Sums.AT_LEAST;
                case '=':
                    return Sums.LIKE;
                case '#':
                    return Sums.UNLIKE;
                default:
                    return NONE;
            }
        }
    }
}
