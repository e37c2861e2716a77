/** Each promise of the document by its number, with answers worked out by hand (see longer() for three that aren't). */
public final class PromiseTest {
    private static final int BEYOND = -1000000001;
    private static final int NONE = -1000000002;
    private static final int STATE = -1000000003;
    private static final int FULL = -1000000004;
    private static final int KIND = -1000000005;

    private static int wrong = 0;

    public static void main(String[] args) {
        newObject();
        notes();
        singer();
        ofSinger();
        nextNotes();
        rule();
        as();
        net();
        ring();
        sing();
        begin();
        feed();
        text();
        faults();
        law();
        bars();
        lastBar();
        loose();
        far();
        worths();
        state();
        round();
        beginnings();
        best();
        before();
        never();
        rings();
        mostStates();
        fewest();
        made();
        heard();
        gone();
        tune();
        longer();
        seed();
        voice();
        trace();
        sheet();
        put();
        move();
        image();
        tell();
        check();
        count();
        told();
        System.out.println(wrong == 0 ? "all promises hold" : wrong + " answers are not as due");
        if (wrong != 0) {
            System.exit(1);
        }
    }

    private static void due(String what, long got, long want) {
        if (got != want) {
            wrong++;
            System.out.println(what + " answered " + got + ", due is " + want);
        }
    }

    /** Singers of one kind each, two digits a rule: kind times 100 and m. */
    private static RingChoir choir(int n, int... rules) {
        RingChoir x = new RingChoir();
        x.notes(n);
        for (int r : rules) {
            x.singer(r / 100, r % 100);
        }
        return x;
    }

    private static void singNotes(RingChoir x, int... notes) {
        for (int i = 0; i < notes.length; i++) {
            x.sing(i, 0, notes[i]);
        }
    }

    private static int feedText(RingChoir x, String text) {
        int there = 0;
        for (int i = 0; i < text.length(); i++) {
            there = x.feed(text.charAt(i), 1);
        }
        return there;
    }

    private static int law(RingChoir x, int use, String text) {
        feedText(x, text);
        return x.text(use);
    }

    private static void lay(RingChoir x, int sheet, int bits, int... numbers) {
        x.sheet(sheet, bits, numbers.length);
        for (int i = 0; i < numbers.length; i++) {
            x.put(sheet, i, numbers[i]);
        }
    }

    private static void newObject() {
        RingChoir x = new RingChoir();
        due("1 BAR", x.count(0), 0);
        due("1 N", x.count(1), 7);
        due("1 singers", x.count(2), 0);
        due("1 wishes", x.count(3), 0);
        due("1 tape", x.count(4), 0);
        due("1 waiting", x.count(5), 0);
        due("1 trace", x.count(6), 0);
        due("1 z", x.count(7), 1);
        due("1 trace", x.trace(0), NONE);
        due("1 image", x.restore(), NONE);
        due("1 sheet 0", x.begin(0), NONE);
        due("1 sheet 3", x.begin(3), NONE);
        due("1 no law", x.law(0, 5, 5, 5, 5), 0);
        due("1 no worth", x.law(1, 5, 0, 0, 0), 5);
        due("1 told 1", x.told(1), 0);
        due("1 told 2", x.told(2), 4);
    }

    private static void notes() {
        RingChoir x = new RingChoir();
        due("2 notes 2", x.notes(2), 7);
        due("2 notes 12", x.notes(12), 2);
        due("2 notes 1", x.notes(1), BEYOND);
        due("2 notes 13", x.notes(13), BEYOND);
        due("2 N stays", x.count(1), 12);
        x.singer(0, 0);
        x.singer(0, 0);
        x.sing(1, 0, 5);
        due("2 a note is 5", x.notes(5), STATE);
        due("2 a note is below 6", x.notes(6), 12);
        x.sing(1, 0, 0);
        x.sing(0, 1, 4);
        due("2 a wish is 4", x.notes(4), STATE);
        due("2 a wish is below 5", x.notes(5), 6);
        x.sing(0, 1, -1);
        due("2 no wish", x.notes(2), 5);
        RingChoir y = choir(7, 104);
        y.sing(0, 0, 1);
        due("2 1 + 4 of 7", y.ofSinger(0, 5), 5);
        y.notes(4);
        due("2 1 + 4 of 4", y.ofSinger(0, 5), 1);
    }

    private static void singer() {
        RingChoir x = new RingChoir();
        due("3 kind -1", x.singer(-1, 0), BEYOND);
        due("3 kind 7", x.singer(7, 0), BEYOND);
        due("3 m -1", x.singer(0, -1), BEYOND);
        due("3 m 100", x.singer(0, 100), BEYOND);
        for (int i = 0; i < 8; i++) {
            due("3 number", x.singer(i % 7, 99), i);
        }
        due("3 full", x.singer(6, 0), FULL);
        due("3 beyond ahead of full", x.singer(7, 0), BEYOND);
        RingChoir y = choir(7, 0, 0, 0);
        y.net(1, 1, 2);
        due("3 the fourth", y.singer(0, 0), 3);
        due("3 0 hears the last", y.ofSinger(0, 3), 3);
        due("3 0 hears the last but one", y.ofSinger(0, 4), 2);
        due("3 1 is told otherwise", y.ofSinger(1, 3), 1);
        due("3 1 is told otherwise", y.ofSinger(1, 4), 2);
        due("3 2 hears 1", y.ofSinger(2, 3), 1);
        due("3 3 hears 1", y.ofSinger(3, 4), 1);
    }

    private static void ofSinger() {
        RingChoir first = new RingChoir();
        first.singer(1, 5);
        due("4 0 + 5", first.ofSinger(0, 5), 5);
        due("16 0 + 10", first.far(2, 0), 3);
        RingChoir x = choir(7, 199, 403);
        due("4 kind", x.ofSinger(1, 0), 4);
        due("4 m", x.ofSinger(0, 1), 99);
        x.sing(1, 0, 6);
        x.sing(1, 1, 2);
        due("4 note", x.ofSinger(1, 2), 6);
        due("4 left", x.ofSinger(1, 3), 0);
        due("4 second of two is itself", x.ofSinger(1, 4), 1);
        due("4 next 6 + 99", x.ofSinger(0, 5), 0);
        due("4 next 0 + 6 + 3", x.ofSinger(1, 5), 2);
        due("4 wish", x.ofSinger(1, 6), 2);
        due("4 no wish", x.ofSinger(0, 6), -1);
        due("4 as in the ring", x.ofSinger(0, 7), 0);
        x.net(0, 0, 0);
        due("4 told otherwise", x.ofSinger(0, 7), 1);
        due("4 what -1", x.ofSinger(0, -1), BEYOND);
        due("4 what 8", x.ofSinger(0, 8), BEYOND);
        due("4 singer 2", x.ofSinger(2, 0), BEYOND);
        due("4 singer -1", x.ofSinger(-1, 0), BEYOND);
    }

    /** The next note of singer 0 of two, who hears 1 first and 0 second. */
    private static int next(int rule, int l, int s) {
        RingChoir x = choir(12, rule, 0);
        law(x, 0, "l*s+m-k-20");
        singNotes(x, s, l);
        return x.ofSinger(0, 5);
    }

    private static void nextNotes() {
        due("RULE", next(7, 9, 5), 9);
        due("SHIFTED", next(107, 9, 5), 4);
        due("SHIFTED by 99", next(199, 11, 5), 2);
        due("SUMMED", next(207, 9, 5), 2);
        due("GATED, both", next(307, 9, 5), 0);
        due("GATED, first", next(307, 9, 0), 9);
        due("GATED, second", next(307, 0, 5), 0);
        due("RAISED", next(407, 9, 5), 9);
        due("GREATER, both", next(507, 9, 5), 5);
        due("GREATER, first", next(507, 9, 0), 9);
        due("GREATER, second", next(507, 0, 5), 5);
        due("TELLING", next(607, 2, 3), (2 + 7 + 6 + 7 - 20) % 12);
        due("TELLING below 0", next(601, 0, 0), 12 + (1 + 1 - 20) % 12);
        RingChoir x = choir(7, 600);
        x.sing(0, 0, 6);
        due("TELLING without a text", x.ofSinger(0, 5), 6);
        law(x, 0, "9999*9999*l*7");
        int wrapped = 9999 * 9999 * 6 * 7;
        due("TELLING that wraps", x.ofSinger(0, 5), Math.floorMod(6L + wrapped, 7L));
        x.rule(0, 6, 50);
        law(x, 0, "1024*1024*2047+1024*1023+1023");
        int greatest = 1024 * 1024 * 2047 + 1024 * 1023 + 1023;
        due("the greatest int", greatest, Integer.MAX_VALUE);
        due("sums without loss", x.ofSinger(0, 5), (6L + 50 + Integer.MAX_VALUE) % 7);
    }

    private static void rule() {
        RingChoir x = choir(7, 105, 0);
        due("5 it was 105", x.rule(0, 6, 99), 105);
        due("5 it was 699", x.rule(0, 0, 0), 699);
        due("5 singer", x.rule(2, 0, 0), BEYOND);
        due("5 singer -1", x.rule(-1, 0, 0), BEYOND);
        due("5 kind", x.rule(0, 7, 0), BEYOND);
        due("5 kind -1", x.rule(0, -1, 0), BEYOND);
        due("5 m", x.rule(0, 0, 100), BEYOND);
        due("5 m -1", x.rule(0, 0, -1), BEYOND);
        due("5 unchanged", x.rule(0, 2, 3), 0);
        due("5 kind", x.ofSinger(0, 0), 2);
        due("5 m", x.ofSinger(0, 1), 3);
        singNotes(x, 1, 3);
        due("5 SUMMED now", x.ofSinger(0, 5), 4);
        x.rule(0, 1, 1);
        due("5 SHIFTED now", x.ofSinger(0, 5), 4);
        x.rule(0, 1, 2);
        due("5 by 2 now", x.ofSinger(0, 5), 5);
    }

    private static void as() {
        int[][] of = {{0}, {0, 1}, {0, 2}, {0, 3}, {0, 2, 4}, {0, 3, 5}, {0, 1, 6}};
        for (int kind = 0; kind < 7; kind++) {
            RingChoir x = choir(7, 100 * kind + 10 + kind);
            for (int k = 0; k < 7; k++) {
                boolean is = false;
                for (int o : of[kind]) {
                    is |= o == k;
                }
                due("6 kind " + kind + " as " + k, x.as(0, k), is ? 10 + kind : KIND);
            }
            due("6 kind -1", x.as(0, -1), BEYOND);
            due("6 kind 7", x.as(0, 7), BEYOND);
            due("6 singer 1", x.as(1, 0), BEYOND);
            due("6 singer -1", x.as(-1, 0), BEYOND);
        }
    }

    private static void net() {
        RingChoir x = choir(7, 200, 200, 200);
        singNotes(x, 1, 2, 4);
        due("7 ring: 4 + 2", x.ofSinger(0, 5), 6);
        due("7 net", x.net(0, 1, 1), 1);
        due("7 2 + 2", x.ofSinger(0, 5), 4);
        due("7 itself", x.net(0, 0, 2), 1);
        due("7 1 + 4", x.ofSinger(0, 5), 5);
        due("7 first 3", x.net(0, 3, 0), BEYOND);
        due("7 second 3", x.net(0, 0, 3), BEYOND);
        due("7 first -1", x.net(0, -1, 0), BEYOND);
        due("7 second -1", x.net(0, 0, -1), BEYOND);
        due("7 singer 3", x.net(3, 0, 0), BEYOND);
        due("7 singer -1", x.net(-1, 0, 0), BEYOND);
        due("7 first stays", x.ofSinger(0, 3), 0);
        due("7 second stays", x.ofSinger(0, 4), 2);
        x.net(1, 0, 2);
        due("7 told otherwise as in the ring", x.ofSinger(1, 7), 1);
    }

    private static void ring() {
        RingChoir x = choir(7, 0, 0, 0);
        due("8 in the ring", x.ring(1), 0);
        x.net(1, 1, 1);
        x.singer(0, 0);
        due("8 told otherwise", x.ring(1), 1);
        due("8 again", x.ring(1), 0);
        due("8 left", x.ofSinger(1, 3), 0);
        due("8 second, around four", x.ofSinger(1, 4), 3);
        due("8 singer 4", x.ring(4), BEYOND);
        due("8 singer -1", x.ring(-1), BEYOND);
        RingChoir one = choir(7, 0);
        due("8 alone: left", one.ofSinger(0, 3), 0);
        due("8 alone: second", one.ofSinger(0, 4), 0);
    }

    private static void sing() {
        RingChoir x = choir(5, 0, 0);
        due("9 note", x.sing(1, 0, 4), 0);
        due("9 note was 4", x.sing(1, 0, 3), 4);
        due("9 note 5", x.sing(1, 0, 5), BEYOND);
        due("9 note -1", x.sing(1, 0, -1), BEYOND);
        due("9 wish", x.sing(1, 1, 4), -1);
        due("9 wish was 4", x.sing(1, 1, -1), 4);
        due("9 wish 5", x.sing(1, 1, 5), BEYOND);
        due("9 wish -2", x.sing(1, 1, -2), BEYOND);
        due("9 what 2", x.sing(1, 2, 0), BEYOND);
        due("9 what -1", x.sing(1, -1, 1), BEYOND);
        due("9 singer 2", x.sing(2, 0, 0), BEYOND);
        due("9 singer -1", x.sing(-1, 1, 0), BEYOND);
        due("9 note stays", x.ofSinger(1, 2), 3);
        due("9 wish stays", x.ofSinger(1, 6), -1);
    }

    private static void begin() {
        RingChoir x = choir(5, 0, 0, 0);
        lay(x, 0, 8, 4, 3, 2, 1);
        due("10 up to who sings", x.begin(0), 3);
        due("10 state", x.state(), 4 + 3 * 5 + 2 * 25);
        lay(x, 1, 32, 1, 5, 1);
        due("10 up to what is no note", x.begin(1), 1);
        due("10 the others stay", x.state(), 1 + 3 * 5 + 2 * 25);
        lay(x, 2, 16, 2, 2, -1);
        due("10 below 0", x.begin(2), 2);
        due("10 the others stay", x.state(), 2 + 2 * 5 + 2 * 25);
        lay(x, 3, 8, 0);
        due("10 up to its end", x.begin(3), 1);
        x.sheet(3, 8, 0);
        due("10 empty", x.begin(3), 0);
        x.sheet(3, 0, 0);
        due("10 missing", x.begin(3), NONE);
        due("10 sheet 4", x.begin(4), BEYOND);
        due("10 sheet -1", x.begin(-1), BEYOND);
        lay(x, 0, 8, 256 + 4);
        due("10 lowest bits", x.begin(0), 1);
        due("10 lowest bits", x.ofSinger(0, 2), 4);
        RingChoir none = new RingChoir();
        lay(none, 0, 8, 1);
        due("10 no singers", none.begin(0), 0);
    }

    private static void feed() {
        RingChoir x = new RingChoir();
        due("11 n 0", x.feed(0, 0), BEYOND);
        due("11 n 9", x.feed(0, 9), BEYOND);
        due("11 lowest first", x.feed(0x2B6C2A73L, 3), 3);
        due("11 next", x.feed('2', 1), 4);
        due("11 it is s*l2", x.text(0), -13);
        for (int i = 1; i <= 6; i++) {
            due("11 eights", x.feed(-1L, 8), 8 * i);
        }
        due("11 51", x.feed(-1L, 3), FULL);
        due("11 still 48", x.count(4), 48);
        due("11 beyond ahead of full", x.feed(0, 9), BEYOND);
        due("11 50", x.feed(-1L, 2), 50);
        due("11 51", x.feed(-1L, 1), FULL);
        RingChoir y = new RingChoir();
        y.feed(0x372A36352D34332BL << 8 | '9', 8);
        due("11 9+34-56*", y.text(0), -18);
        y.feed('1' | (long) '0' << 8 | (long) '7' << 16 | (long) '-' << 24 | (long) '9' << 32
            | (long) '9' << 40 | (long) '/' << 48 | (long) '9' << 56, 8);
        due("11 107-99/9", y.text(0), 1);
        due("11 107-11", y.law(0, 0, 0, 0, 0), 96);
    }

    private static void text() {
        RingChoir x = new RingChoir();
        feedText(x, "l+1");
        due("12 use 2", x.text(2), BEYOND);
        due("12 use -1", x.text(-1), BEYOND);
        due("12 tape stays", x.count(4), 3);
        due("12 use 0", x.text(0), 1);
        due("12 tape is empty", x.count(4), 0);
        due("12 3 + 1", x.law(0, 3, 0, 0, 0), 4);
        feedText(x, "l+s+");
        due("12 ends too early", x.text(0), -14);
        due("12 tape is empty", x.count(4), 0);
        due("12 the one ahead stays", x.law(0, 3, 0, 0, 0), 4);
        due("12 a new one", law(x, 0, "l+2"), 1);
        due("12 3 + 2", x.law(0, 3, 0, 0, 0), 5);
        due("12 worth", law(x, 1, "n*k"), 1);
        due("12 3 * 5", x.law(1, 3, 5, 0, 0), 15);
        due("12 adds stays", x.law(0, 3, 0, 0, 0), 5);
        due("12 empty", x.text(0), -10);
        due("12 no errors but two", x.told(1), 2);
        RingChoir y = choir(7, 600);
        due("12 adds 0", y.far(1, 0), 0);
        law(y, 0, "3");
        due("12 adds 3", y.far(1, 0), 3);
        law(y, 0, "4");
        due("12 adds 4", y.far(1, 0), 4);
    }

    private static void fault(int use, String text, int place) {
        due("FAULT of " + text, law(new RingChoir(), use, text), place < 0 ? 1 : -10 - place);
    }

    private static void faults() {
        fault(0, "l+s*m-k/2%3", -1);
        fault(0, "l|s&m<k", -1);
        fault(0, "!!!!!l", -1);
        fault(0, "!!!!!!l", 5);
        fault(0, "(((((l)))))", -1);
        fault(0, "((((((l", 5);
        fault(0, "!(!(!l))", -1);
        fault(0, "!(!(!!", 5);
        fault(0, "!!!!!l+!!!!!(", 12);
        fault(0, "(l)+((((l))))", -1);
        fault(0, "!l*!l*!l*!l*!l*!l", -1);
        fault(0, "(l", 2);
        fault(0, "(l+", 3);
        fault(0, "l)", 1);
        fault(0, "()", 1);
        fault(0, "l l", 1);
        fault(0, " l", 0);
        fault(0, "1234", -1);
        fault(0, "0000", -1);
        fault(0, "12345", 4);
        fault(0, "l+12345", 6);
        fault(0, "(12345)", 5);
        fault(0, "1l", 1);
        fault(0, "l1", 1);
        fault(0, "ls", 1);
        fault(0, "1<2<3", 3);
        fault(0, "1<2=3", 3);
        fault(0, "(1<2)<3", -1);
        fault(0, "1<2&2<3|3=3", -1);
        fault(0, "1+<2", 2);
        fault(0, "-1", 0);
        fault(0, "1--1", 2);
        fault(0, "l!", 1);
        fault(0, "l(", 1);
        fault(0, "!", 1);
        fault(0, "n", 0);
        fault(0, "L", 0);
        fault(1, "n-k", -1);
        fault(1, "l", 0);
        fault(1, "n+s", 2);
        fault(1, "k>m", 2);
        fault(0, "l+" + (char) 233, 2);
        fault(0, (char) 0 + "l", 0);
        fault(0, "l+l+l+l+l+l+l+l+l+l+l+l+l+l+l+l+l+l+l+l+l+l+l+l+l+", 50);
        fault(0, "(l+l+l+l+l+l+l+l+l+l+l+l+l+l+l+l+l+l+l+l+l+l+l+l)", -1);
    }

    private static int value(String text, int l, int s, int m, int k) {
        RingChoir x = new RingChoir();
        due("good: " + text, law(x, 0, text), 1);
        return x.law(0, l, s, m, k);
    }

    private static void law() {
        RingChoir x = new RingChoir();
        due("13 use 2", x.law(2, 0, 0, 0, 0), BEYOND);
        due("13 use -1", x.law(-1, 0, 0, 0, 0), BEYOND);
        due("13 no adds", x.law(0, 1, 2, 3, 4), 0);
        due("13 no worth", x.law(1, -7, 2, 3, 4), -7);
        due("13 no worth, held", x.law(1, 1000, 2, 3, 4), 999);
        due("13 names", value("l*1000+s*100+m*10+k", 1, 2, 3, 4), 1234);
        due("13 from the left", value("9-4-3", 0, 0, 0, 0), 2);
        due("13 from the left", value("100/7*7%5", 0, 0, 0, 0), 3);
        due("13 cut", value("(l-9)/4", 0, 0, 0, 0), -2);
        due("13 rest", value("(l-9)%4", 0, 0, 0, 0), -1);
        due("13 by 0", value("7/l", 0, 0, 0, 0), 0);
        due("13 rest by 0", value("7%l", 0, 0, 0, 0), 0);
        due("13 least by -1", value("l/s", Integer.MIN_VALUE, -1, 0, 0), Integer.MIN_VALUE);
        due("13 least by -1", value("l%s", Integer.MIN_VALUE, -1, 0, 0), 0);
        due("13 wraps", value("l+1", Integer.MAX_VALUE, 0, 0, 0), Integer.MIN_VALUE);
        due("13 wraps", value("l*l", 65536, 0, 0, 0), 0);
        due("13 * ahead of +", value("2+3*4", 0, 0, 0, 0), 14);
        due("13 + ahead of <", value("1+1<2+1", 0, 0, 0, 0), 1);
        due("13 < ahead of &", value("1<2&2<3", 0, 0, 0, 0), 1);
        due("13 & ahead of |", value("1|0&0", 0, 0, 0, 0), 1);
        due("13 ! ahead of *", value("!0*5", 0, 0, 0, 0), 5);
        due("13 ! of what is not 0", value("!l", -3, 0, 0, 0), 0);
        due("13 !!", value("!!l", -3, 0, 0, 0), 1);
        due("13 | is 1", value("l|0", 8, 0, 0, 0), 1);
        due("13 | is 1", value("0|l", 8, 0, 0, 0), 1);
        due("13 | is 0", value("0|l", 0, 0, 0, 0), 0);
        due("13 < of equals", value("l<s", 8, 8, 0, 0), 0);
        due("13 & is 1", value("l&2", 8, 0, 0, 0), 1);
        due("13 & is 0", value("l&0", 8, 0, 0, 0), 0);
        due("13 =", value("l=s", 8, 8, 0, 0), 1);
        due("13 >", value("l>s", 8, 8, 0, 0), 0);
        due("13 <", value("l<s", -8, 8, 0, 0), 1);
        due("13 ( )", value("(2+3)*4", 0, 0, 0, 0), 20);
        due("13 as an ERROR looks", value("l", BEYOND, 0, 0, 0), BEYOND);
        due("13 held", law(x, 1, "n*k"), 1);
        due("13 above", x.law(1, 500, 2, 0, 0), 999);
        due("13 below", x.law(1, 500, -2, 0, 0), -999);
        due("13 within", x.law(1, 333, 3, 0, 0), 999);
        due("13 within", x.law(1, 499, -2, 0, 0), -998);
        due("13 only the uses", x.told(1), 2);
    }

    private static void bars() {
        RingChoir x = choir(7, 0, 0, 0);
        singNotes(x, 1, 2, 3);
        due("14 n 0", x.bars(0), BEYOND);
        due("14 n 501", x.bars(501), BEYOND);
        due("14 BAR", x.bars(1), 1);
        due("14 all at once", x.state(), 3 + 7 + 2 * 49);
        due("14 BAR", x.bars(500), 501);
        due("14 501 is 0 of 3", x.state(), 1 + 2 * 7 + 3 * 49);
        RingChoir none = new RingChoir();
        due("14 no singers", none.bars(3), 3);
        due("14 no singers", none.count(0), 3);
    }

    /** 999999 is 1999 times 500 and 499: more calls than are promised for one object, but it still holds here. */
    private static void lastBar() {
        RingChoir x = choir(7, 0);
        int bar = 0;
        for (int i = 0; i < 1999; i++) {
            bar = x.bars(500);
        }
        due("14 BAR", bar, 999500);
        due("14 above the last", x.bars(500), STATE);
        due("15 above the last", x.loose(500, 0), STATE);
        due("14 up to the last", x.bars(499), 999999);
        due("37 at the last", x.image(), 1);
        due("14 one more", x.bars(1), STATE);
        due("15 one more", x.loose(1, 0), STATE);
        due("14 beyond first", x.bars(501), BEYOND);
        due("16 ahead of the last", x.far(500, 0), 0);
        due("14 BAR", x.count(0), 999999);
        RingChoir y = choir(7, 0);
        for (int i = 0; i < 1999; i++) {
            y.loose(500, 0);
        }
        due("15 above the last", y.loose(500, 0), STATE);
        due("15 up to the last", y.loose(499, 0), 999999);
    }

    private static void loose() {
        RingChoir x = choir(7, 0, 0, 0);
        due("15 n 0", x.loose(0, 50), BEYOND);
        due("15 n 501", x.loose(501, 50), BEYOND);
        due("15 loose -1", x.loose(1, -1), BEYOND);
        due("15 loose 101", x.loose(1, 101), BEYOND);
        due("15 no singers", new RingChoir().loose(1, 50), STATE);
        due("15 no singers, n 0", new RingChoir().loose(0, 50), BEYOND);
        due("15 not loose", x.loose(3, 0), 3);
        due("15 not loose", x.state(), 0);
        int z = 1;
        for (int i = 0; i < 6; i++) {
            z = z * 1103515245 + 12345;
        }
        due("15 two draws a bar", x.count(7), z);
        x.seed(1);
        int first = 1 * 1103515245 + 12345;
        int second = first * 1103515245 + 12345;
        int who = (first >>> 8) % 3;
        due("15 loose", x.loose(1, 100), 4);
        due("15 one is a note more", x.ofSinger(who, 2), 1);
        due("15 one alone", x.ofSinger(0, 2) + x.ofSinger(1, 2) + x.ofSinger(2, 2), 1);
        int rest = (second >>> 8) % 100;
        RingChoir y = choir(2, 0);
        y.loose(1, rest);
        due("15 not below", y.state(), 0);
        y.seed(1);
        y.sing(0, 0, 1);
        y.loose(1, rest + 1);
        due("15 below, counted round", y.state(), 0);
    }

    private static void far() {
        RingChoir x = choir(7, 0, 0, 0, 0);
        singNotes(x, 1, 2, 3, 4);
        due("16 now", x.far(0, 2), 3);
        due("16 in 1", x.far(1, 2), 2);
        due("16 in 3", x.far(3, 2), 4);
        due("16 in 500", x.far(500, 2), 3);
        due("16 in 501", x.far(501, 2), BEYOND);
        due("16 in -1", x.far(-1, 2), BEYOND);
        due("16 singer 4", x.far(1, 4), BEYOND);
        due("16 singer -1", x.far(1, -1), BEYOND);
        due("16 nothing goes by", x.count(0), 0);
        due("16 nothing goes by", x.state(), 1 + 14 + 3 * 49 + 4 * 343);
    }

    private static void worths() {
        RingChoir x = choir(7, 101, 102);
        singNotes(x, 1, 2);
        due("17 now", x.worths(0), 3);
        due("17 in 1: 3 and 3", x.worths(1), 6);
        law(x, 1, "n*10+k");
        due("17 in 1: 30 and 31", x.worths(1), 61);
        law(x, 1, "n*1000");
        due("17 each is held", x.worths(1), 1998);
        due("17 501", x.worths(501), BEYOND);
        due("17 -1", x.worths(-1), BEYOND);
        due("17 no singers", new RingChoir().worths(500), 0);
    }

    private static void state() {
        due("18 no singers", new RingChoir().state(), 0);
        RingChoir x = choir(12, 0, 0, 0, 0, 0, 0, 0, 0);
        singNotes(x, 11, 11, 11, 11, 11, 11, 11, 11);
        due("18 the most", x.state(), 429981695L);
        singNotes(x, 3, 0, 1, 0, 0, 0, 0, 0);
        due("18 3 and 144", x.state(), 147);
    }

    private static void round() {
        RingChoir x = choir(7, 0, 0, 0);
        due("19 all silent: tail", x.round(0), 0);
        due("19 all silent: length", x.round(1), 1);
        singNotes(x, 1, 2, 3);
        due("19 ring of 3", x.round(1), 3);
        x.net(0, 0, 0);
        due("19 tail: 0 goes on to all", x.round(0), 2);
        due("19 length", x.round(1), 1);
        due("19 what 2", x.round(2), BEYOND);
        due("19 what -1", x.round(-1), BEYOND);
        due("19 no singers", new RingChoir().round(1), 1);
        RingChoir odometer = new RingChoir();
        addOdometer(odometer, 8);
        due("19 within 513: tail", odometer.round(0), 1);
        due("19 within 513: length", odometer.round(1), 512);
        RingChoir tooFar = new RingChoir();
        addOdometer(tooFar, 9);
        due("19 730", tooFar.round(0), NONE);
        due("19 what ahead of NONE", tooFar.round(2), BEYOND);
        RingChoir clock = clock(121);
        clock.sing(3, 0, 8);
        due("19 within 600: tail", clock.round(0), 456);
        due("19 within 600: length", clock.round(1), 144);
        clock = clock(120);
        clock.sing(3, 0, 8);
        due("19 601: tail", clock.round(0), NONE);
        due("19 601: length", clock.round(1), NONE);
        due("19 nothing goes by", clock.count(0), 0);
    }

    /**
     * Four singers: 0 counts up, 1 counts when 0 is at its last note, 2 sings 1 for a bar when both were,
     * 3 counts that: a round of n * n * n bars, into which the first bar leads (2 is silent in it).
     */
    private static void addOdometer(RingChoir x, int n) {
        int from = x.count(2);
        x.notes(n);
        x.singer(1, 1);
        x.singer(6, 0);
        x.singer(6, 0);
        x.singer(2, 0);
        int last = n - 1;
        due("odometer", law(x, 0, "(s=" + last + ")*(k%4=1)+((l=" + last + "&s=" + last + ")-l)*(k%4=2)"), 1);
        x.net(from, from, from);
        x.net(from + 1, from + 1, from);
        x.net(from + 2, from + 1, from);
        x.net(from + 3, from + 3, from + 2);
    }

    /**
     * N is 12; 0 and 1 count 144 bars round, now being at a phase; 2 sings 1 for a bar behind the last;
     * 3, if it isn't silent, sings one more then, until it is silent.
     */
    private static RingChoir clock(int phase) {
        RingChoir x = choir(12, 101, 600, 600, 600);
        due("clock", law(x, 0, "(s=11)*(k=1)+((l=11&s=11)-l)*(k=2)+(l>0)*s*(k=3)"), 1);
        x.net(0, 0, 0);
        x.net(1, 1, 0);
        x.net(2, 1, 0);
        x.net(3, 3, 2);
        singNotes(x, phase % 12, phase / 12);
        return x;
    }

    private static void beginnings() {
        RingChoir x = choir(3, 0, 0, 0);
        due("20 no wish", x.beginnings(5, 0), 27);
        due("20 no wish: first", x.beginnings(5, 1), 0);
        x.sing(1, 1, 2);
        due("20 1 sings what 0 sang", x.beginnings(1, 0), 9);
        due("20 first", x.beginnings(1, 1), 2);
        due("20 now", x.beginnings(0, 1), 6);
        due("20 in 2 by singer 2", x.beginnings(2, 1), 18);
        x.sing(1, 1, 0);
        due("20 silence is a wish, too", x.beginnings(1, 0), 9);
        x.sing(1, 1, 2);
        x.sing(2, 1, 1);
        due("20 two wishes", x.beginnings(1, 0), 3);
        due("20 two wishes: first", x.beginnings(1, 1), 2 + 3);
        due("20 60 as 0", x.beginnings(60, 1), 6 + 9);
        due("20 61", x.beginnings(61, 0), BEYOND);
        due("20 -1", x.beginnings(-1, 0), BEYOND);
        due("20 what 2", x.beginnings(1, 2), BEYOND);
        due("20 what -1", x.beginnings(1, -1), BEYOND);
        x.rule(1, 3, 0);
        x.net(1, 0, 0);
        due("20 never: first", x.beginnings(1, 1), -1);
        due("20 never: how many", x.beginnings(1, 0), 0);
    }

    private static void best() {
        RingChoir x = choir(3, 0, 0, 0);
        due("21 all 2", x.best(7), 26);
        law(x, 1, "k=1&n=1");
        due("21 now, the least", x.best(0), 3);
        due("21 in 1, of 0", x.best(1), 1);
        due("21 in 2, of 2", x.best(2), 9);
        law(x, 1, "0-n");
        due("21 below 0", x.best(3), 0);
        law(x, 1, "0-5-n*(k>0)+n*(k=0)");
        due("21 all below 0", x.best(0), 2);
        law(x, 1, "4");
        due("21 of all the least", x.best(60), 0);
        due("21 61", x.best(61), BEYOND);
        due("21 -1", x.best(-1), BEYOND);
    }

    private static void before() {
        RingChoir x = choir(3, 0, 0, 0);
        due("22 silence is behind silence", x.before(0), 1);
        due("22 silence is behind silence", x.before(1), 0);
        singNotes(x, 2, 0, 1);
        due("22 one", x.before(0), 1);
        due("22 from the right", x.before(1), 0 + 3 * 1 + 9 * 2);
        x.net(0, 0, 0);
        x.net(1, 0, 0);
        singNotes(x, 2, 2, 1);
        due("22 2 1 and any", x.before(0), 3);
        due("22 least", x.before(1), 2 + 3);
        singNotes(x, 2, 1, 1);
        due("22 none", x.before(0), 0);
        due("22 none: least", x.before(1), -1);
        due("22 what 2", x.before(2), BEYOND);
        due("22 what -1", x.before(-1), BEYOND);
    }

    private static void never() {
        RingChoir x = choir(3, 0, 0, 0);
        due("23 a ring", x.never(), 0);
        x.net(0, 0, 0);
        due("23 0 and 1 alike", x.never(), 18);
        x.net(2, 0, 0);
        due("23 all alike", x.never(), 24);
        due("23 no singers", new RingChoir().never(), 0);
    }

    private static void rings() {
        RingChoir x = choir(3, 0, 0, 0);
        due("24 three of 1, eight of 3", x.rings(0), 11);
        due("24 longest", x.rings(1), 3);
        x.net(0, 0, 0);
        due("24 each its own", x.rings(0), 3);
        due("24 longest", x.rings(1), 1);
        due("24 what 2", x.rings(2), BEYOND);
        due("24 what -1", x.rings(-1), BEYOND);
        RingChoir one = choir(12, 105);
        due("24 5 counts all of 12", one.rings(1), 12);
        one.rule(0, 1, 4);
        due("24 by 4: four", one.rings(0), 4);
        due("24 by 4: of 3", one.rings(1), 3);
        RingChoir two = choir(12, 101, 600);
        law(two, 0, "s=11");
        two.net(0, 0, 0);
        two.net(1, 1, 0);
        due("24 one", two.rings(0), 1);
        due("24 of 144", two.rings(1), 144);
        due("24 no singers", new RingChoir().rings(0), 1);
        RingChoir clock = new RingChoir();
        addOdometer(clock, 7);
        due("24 one, into which all go", clock.rings(0), 1);
        due("24 of 343", clock.rings(1), 343);
        due("23 2 isn't 1 behind both at 6, nor else 0", clock.never(), 7 * 7 * 7 * 6);
    }

    private static void mostStates() {
        RingChoir x = choir(7, 0, 0, 0, 0);
        due("20 2401", x.beginnings(0, 0), 2401);
        x.singer(0, 0);
        due("20 16807", x.beginnings(0, 0), STATE);
        due("20 beyond first", x.beginnings(61, 0), BEYOND);
        due("21 16807", x.best(0), STATE);
        due("21 beyond first", x.best(61), BEYOND);
        due("22 16807", x.before(0), STATE);
        due("22 beyond first", x.before(2), BEYOND);
        due("23 16807", x.never(), STATE);
        due("24 16807", x.rings(0), STATE);
        due("24 beyond first", x.rings(2), BEYOND);
        x.notes(4);
        due("23 1024", x.never(), 0);
        x.notes(5);
        due("23 3125", x.never(), STATE);
        x.notes(3);
        x.singer(0, 0);
        x.singer(0, 0);
        due("20 2187", x.beginnings(0, 0), 2187);
        x.singer(0, 0);
        due("20 6561", x.beginnings(0, 0), STATE);
        x.notes(2);
        due("20 256", x.beginnings(0, 0), 256);
    }

    private static void fewest() {
        RingChoir x = choir(7, 0, 0, 0);
        singNotes(x, 1, 2, 3);
        lay(x, 0, 8, 3, 1, 2, 2, 3, 1);
        due("25 as it goes", x.fewest(0), 0);
        x.put(0, 5, 0);
        due("25 2 sings otherwise in the second", x.fewest(0), 1);
        x.put(0, 1, 5);
        due("25 1 in the first, by which 2 was odd", x.fewest(0), 2);
        lay(x, 0, 8, 3, 1, 2, 2, 3);
        due("25 what isn't whole", x.fewest(0), 0);
        lay(x, 0, 8, 0, 0);
        due("25 none whole", x.fewest(0), 0);
        lay(x, 1, 32, 3, 1, 7);
        due("25 no note", x.fewest(1), 1);
        lay(x, 1, 32, 3, 1, 9, 9, 3, 1);
        due("25 no note, told on: 9 is 2 then, which isn't told", x.fewest(1), 2);
        lay(x, 1, 32, 3, 1, 9, 2, 3, 1);
        due("25 no note, told on: 9 is 2 then", x.fewest(1), 1);
        due("25 sheet 4", x.fewest(4), BEYOND);
        due("25 sheet -1", x.fewest(-1), BEYOND);
        due("25 missing", x.fewest(2), NONE);
        RingChoir none = new RingChoir();
        lay(none, 0, 8, 1, 2, 3);
        due("25 no singers", none.fewest(0), 0);
        RingChoir one = choir(7, 102);
        lay(one, 0, 8, 2, 4, 6, 1, 3);
        due("25 one, as it goes", one.fewest(0), 0);
        one.put(0, 4, 0);
        due("25 one, otherwise", one.fewest(0), 1);
    }

    private static void made() {
        RingChoir x = choir(7, 699, 0, 0);
        singNotes(x, 1, 2, 3);
        lay(x, 0, 8, (3 + 99) % 7, 1, 2);
        due("26 its own", x.made(0, 0), 699);
        lay(x, 0, 8, 5, 1, 2);
        due("26 by 2 more", x.made(0, 0), 102);
        lay(x, 0, 8, 3, 1, 2);
        due("26 as RULE", x.made(0, 0), 0);
        lay(x, 0, 8, 0, 1, 2);
        due("26 SHIFTED ahead of GATED", x.made(0, 0), 104);
        lay(x, 0, 8, 5, 1, 2, 3, 5, 1);
        due("26 SUMMED: 3 + 2, 2 + 1", x.made(0, 0), 200);
        lay(x, 0, 8, 6, 1, 2, 4, 6, 1);
        due("26 RAISED: 3 + 2 + 1, 2 + 1 + 1", x.made(0, 0), 401);
        lay(x, 0, 8, 0, 1, 2, 0, 0, 1);
        due("26 GATED: 3 and 2, 2 and 1", x.made(0, 0), 300);
        lay(x, 0, 8, 2, 1, 2, 1, 2, 1);
        due("26 by 6 more", x.made(0, 0), 106);
        lay(x, 0, 8, 2, 1, 2, 1, 2, 1, 2, 1, 2);
        due("26 GREATER: 2 of 3, 1 of 2, 2 of 1", x.made(0, 0), 500);
        lay(x, 0, 8, 2, 1, 2, 5, 2, 1, 0, 0, 0);
        due("26 by none", x.made(0, 0), NONE);
        lay(x, 0, 8, 7, 1, 2);
        due("26 no note", x.made(0, 0), NONE);
        due("26 sheet 4", x.made(4, 0), BEYOND);
        due("26 sheet -1", x.made(-1, 0), BEYOND);
        due("26 singer 3", x.made(0, 3), BEYOND);
        due("26 singer 3 of a missing one", x.made(1, 3), BEYOND);
        due("26 missing", x.made(1, 0), NONE);
        due("26 the rule stays", x.ofSinger(0, 1), 99);
    }

    private static void heard() {
        RingChoir x = choir(7, 0, 0, 0, 0);
        due("27 now", x.heard(1, 1, 0), 2);
        due("27 in 1", x.heard(1, 1, 1), 4);
        due("27 in 200", x.heard(1, 1, 200), 2);
        due("27 all of N", x.heard(1, 7, 3), 0);
        due("27 more than N", x.heard(1, 8, 3), 1);
        due("27 d 11", x.heard(1, 11, 3), 1);
        due("27 201", x.heard(1, 1, 201), BEYOND);
        due("27 -1", x.heard(1, 1, -1), BEYOND);
        due("27 d 0", x.heard(1, 0, 1), BEYOND);
        due("27 d 12", x.heard(1, 12, 1), BEYOND);
        due("27 singer 4", x.heard(4, 1, 1), BEYOND);
        due("27 singer -1", x.heard(-1, 1, 1), BEYOND);
        x.rule(3, 2, 0);
        due("27 two hear, and one hears one of them", x.heard(1, 1, 2), 9);
        due("27 two hear", x.heard(1, 1, 1), 12);
        due("27 nothing changes", x.state(), 0);
    }

    private static void gone() {
        RingChoir x = choir(7, 0, 0, 0, 0);
        due("28 never", x.gone(1, 1), NONE);
        due("28 at once", x.gone(1, 7), 0);
        x.rule(0, 3, 0);
        singNotes(x, 1, 1, 1, 1);
        due("28 both aren't 0 at 0: on 1 to 2, 3, gated", x.gone(1, 1), 3);
        due("28 2 to 3, gated", x.gone(2, 1), 2);
        due("28 singer 4", x.gone(4, 1), BEYOND);
        due("28 singer -1", x.gone(-1, 1), BEYOND);
        due("28 d 0", x.gone(0, 0), BEYOND);
        due("28 d 12", x.gone(0, 12), BEYOND);
        due("28 200", clock(89).gone(3, 10), 200);
        due("27 199", clock(89).heard(3, 10, 199), 8);
        due("27 200", clock(89).heard(3, 10, 200), 0);
        due("28 201", clock(88).gone(3, 10), NONE);
    }

    private static void tune() {
        RingChoir x = choir(7, 0, 0, 0, 0);
        singNotes(x, 1, 2, 3, 4);
        lay(x, 0, 8, 1);
        due("29 now, 0", x.tune(0), 0);
        lay(x, 0, 8, 3, 2, 1);
        due("29 now, 2", x.tune(0), 2);
        lay(x, 0, 8, 4, 3, 2, 1, 4, 3);
        due("29 now, 3", x.tune(0), 3);
        lay(x, 0, 8, 3, 1);
        due("29 nowhere", x.tune(0), NONE);
        lay(x, 0, 8, 1, 7);
        due("29 no note", x.tune(0), NONE);
        x.sheet(0, 8, 0);
        due("29 no numbers", x.tune(0), NONE);
        due("29 missing", x.tune(1), NONE);
        due("29 sheet 4", x.tune(4), BEYOND);
        due("29 sheet -1", x.tune(-1), BEYOND);
        RingChoir none = new RingChoir();
        lay(none, 0, 8, 1);
        due("29 no singers", none.tune(0), NONE);
        RingChoir c = clock(44);
        lay(c, 1, 32, 11, 0, 0);
        due("29 of 1 in 99", c.tune(1), 991);
        lay(c, 1, 32, 11, 0);
        due("29 of 0 in 3", c.tune(1), 30);
        lay(c, 1, 32, 11, 11, 0);
        due("29 of 1 in 98", c.tune(1), 981);
        c.sing(0, 0, 6);
        due("29 of 1 in 100", c.tune(1), 1001);
        c.sing(0, 0, 5);
        due("29 not in 101", c.tune(1), NONE);
        int[] forty = new int[40];
        for (int i = 0; i < 40; i++) {
            forty[i] = (i + 9) % 12;
        }
        lay(c, 2, 16, forty);
        due("29 forty", c.tune(2), 40);
    }

    private static void longer() {
        due("30 no singers", new RingChoir().longer(0), NONE);
        due("30 what first", new RingChoir().longer(2), BEYOND);
        due("30 what -1", new RingChoir().longer(-1), BEYOND);
        RingChoir one = choir(12, 0);
        due("30 SHIFTED by 1", one.longer(0), 101);
        due("30 12", one.longer(1), 12);
        RingChoir two = choir(12, 0, 0);
        two.net(0, 0, 0);
        two.net(1, 1, 1);
        due("30 first of both", two.longer(0), 101);
        two.rule(1, 1, 4);
        due("30 of 3 with 12 as 12", two.longer(0), 101);
        two.notes(6);
        two.rule(1, 1, 3);
        due("30 of 2 with 6 as 6", two.longer(1), 6);
        two.notes(10);
        two.rule(0, 1, 5);
        two.rule(1, 1, 0);
        due("30 2 of 0; 10 of 0 as 10 of 1", two.longer(0), 101);
        due("30 rules stay", two.rule(0, 1, 5), 105);
        due("30 nothing goes by", two.round(1), 2);
        RingChoir own = choir(7, 501, 101);
        own.net(0, 0, 0);
        own.net(1, 1, 1);
        due("30 0 1 3 by RAISED with 1", own.longer(0), 401);
        due("30 3 times 7", own.longer(1), 21);
        own.rule(1, 0, 0);
        own.notes(2);
        due("30 SHIFTED by 1 is the first of 2 bars", own.longer(0), 101);
        RingChoir later = choir(7, 101, 0);
        later.net(0, 0, 0);
        later.net(1, 1, 1);
        due("30 1 by RAISED with 1", later.longer(0), 10401);
        due("30 7 times 3", later.longer(1), 21);
        // These were found by a search with the program: that no other rule does better is the model's word too.
        RingChoir fed = choir(2, 0, 0, 0);
        fed.sing(1, 0, 1);
        due("30 all but silence, by SUMMED", fed.longer(0), 200);
        due("30 all but silence", fed.longer(1), 7);
        fed.rule(1, 2, 0);
        due("30 all but silence, by its own", fed.longer(0), 0);
        due("30 all but silence", fed.longer(1), 7);
        RingChoir greater = choir(3, 200, 500, 300);
        greater.sing(0, 0, 1);
        due("30 2 by GREATER", greater.longer(0), 20500);
        due("30 011 211 212 022 122 121", greater.longer(1), 6);
        RingChoir halves = new RingChoir();
        addOdometer(halves, 9);
        due("30 one rule ends it", halves.longer(0) >= 0 ? 1 : 0, 1);
        addOdometer(halves, 9);
        due("30 one rule leaves the other half", halves.longer(0), NONE);
        due("30 one rule leaves the other half", halves.longer(1), NONE);
        due("30 what ahead of NONE", halves.longer(2), BEYOND);
    }

    private static void seed() {
        RingChoir x = new RingChoir();
        due("31 1 at first", x.seed(-5), 1);
        due("31 -5", x.seed(Integer.MIN_VALUE), -5);
        due("31 least", x.seed(BEYOND), Integer.MIN_VALUE);
        due("31 as an ERROR looks", x.seed(0), BEYOND);
        due("31 no error", x.told(1), 0);
        due("31 z", x.count(7), 0);
    }

    private static void voice() {
        RingChoir x = choir(7, 3, 103, 203, 303, 403, 503, 603);
        due("32 RULE hears", x.voice(0, 0, 5), 5);
        due("32 RULE sings", x.voice(0, 1, 5), 10);
        due("32 RULE rests", x.voice(0, 2, 5), 2);
        due("32 RULE tells", x.voice(0, 3, 5), 10 ^ 2);
        due("32 SHIFTED sings", x.voice(1, 1, 5), 12 + 2);
        due("32 SHIFTED tells", x.voice(1, 3, 5), 14 ^ 2);
        due("32 SUMMED hears", x.voice(2, 0, 5), 21);
        due("32 SUMMED sings", x.voice(2, 1, 5), 42);
        due("32 GATED rests", x.voice(3, 2, 5), -2);
        due("32 GATED tells", x.voice(3, 3, 5), 16 ^ -2);
        due("32 RAISED hears", x.voice(4, 0, 5), 30);
        due("32 RAISED tells", x.voice(4, 3, 5), 60 ^ 2);
        due("32 GREATER tells", x.voice(5, 3, 5), (20 ^ -2) - 7);
        due("32 TELLING sings", x.voice(6, 1, 5), 24 ^ 6);
        due("32 TELLING tells", x.voice(6, 3, 5), 30 - (30 ^ 2));
        due("32 goes round", x.voice(0, 1, 1 << 30), Integer.MIN_VALUE);
        due("32 as an ERROR looks", x.voice(0, 0, BEYOND), BEYOND);
        due("32 act 4", x.voice(0, 4, 0), BEYOND);
        due("32 act -1", x.voice(0, -1, 0), BEYOND);
        due("32 singer 7", x.voice(7, 0, 0), BEYOND);
        due("32 singer -1", x.voice(-1, 0, 0), BEYOND);
        due("32 errors", x.told(1), 4);
    }

    private static void traced(RingChoir x, int singer, int act, int... bodies) {
        x.voice(singer, act, 5);
        due("33 how many", x.count(6), bodies.length);
        for (int i = 0; i < bodies.length; i++) {
            due("33 body " + i, x.trace(i), bodies[i]);
        }
        due("33 behind", x.trace(bodies.length), NONE);
        due("33 -1", x.trace(-1), NONE);
    }

    private static void trace() {
        RingChoir x = choir(7, 0, 100, 200, 300, 400, 500, 600);
        traced(x, 0, 3, 13, 11, 10, 12);
        traced(x, 1, 1, 20, 11, 10, 12);
        traced(x, 2, 1, 11, 30, 10);
        traced(x, 3, 3, 13, 11, 10, 40, 12);
        traced(x, 4, 0, 50, 30, 10);
        traced(x, 5, 3, 60, 13, 11, 10, 40, 12, 10);
        traced(x, 6, 3, 71, 70, 20, 11, 10, 12, 13, 70, 20, 11, 10, 12, 12);
        x.voice(9, 0, 0);
        due("33 an ERROR leaves it", x.count(6), 13);
    }

    private static void sheet() {
        RingChoir x = choir(7, 0);
        due("34 8", x.sheet(0, 8, 40), 1);
        due("34 16", x.sheet(3, 16, 0), 1);
        due("34 32", x.sheet(1, 32, 1), 1);
        due("34 bits 1", x.sheet(0, 1, 1), BEYOND);
        due("34 bits 64", x.sheet(0, 64, 1), BEYOND);
        due("34 bits -8", x.sheet(0, -8, 1), BEYOND);
        due("34 41", x.sheet(0, 8, 41), BEYOND);
        due("34 -1", x.sheet(0, 8, -1), STATE);
        due("34 sheet 4", x.sheet(4, 8, 1), BEYOND);
        due("34 sheet -1", x.sheet(-1, 8, 1), BEYOND);
        due("34 sheet ahead of n", x.sheet(4, 8, -1), BEYOND);
        due("34 bits ahead of n", x.sheet(0, 9, -1), BEYOND);
        due("34 it stays", x.put(0, 39, 1), 1);
        due("34 missing, n -1", x.sheet(0, 0, -1), 1);
        due("34 missing", x.put(0, 0, 1), NONE);
        due("34 missing, n 99", x.sheet(1, 0, 99), 1);
        due("34 missing", x.begin(1), NONE);
        lay(x, 2, 8, 5);
        x.sheet(2, 8, 1);
        x.sing(0, 0, 3);
        x.begin(2);
        due("34 all 0", x.state(), 0);
    }

    private static void put() {
        RingChoir x = choir(7, 0);
        x.sheet(0, 8, 2);
        due("35 put", x.put(0, 1, 5), 1);
        due("35 i 2", x.put(0, 2, 5), BEYOND);
        due("35 i -1", x.put(0, -1, 5), BEYOND);
        due("35 missing", x.put(1, 0, 5), NONE);
        due("35 missing ahead of i", x.put(1, -1, 5), NONE);
        due("35 sheet 4", x.put(4, 0, 5), BEYOND);
        due("35 sheet -1", x.put(-1, 0, 5), BEYOND);
        x.put(0, 0, 256 * 7 + 3);
        due("35 8 bits", x.begin(0), 1);
        due("35 8 bits", x.state(), 3);
        x.sheet(0, 16, 1);
        x.put(0, 0, 256 + 3);
        due("35 16 bits", x.begin(0), 0);
        x.put(0, 0, 65536 + 4);
        due("35 16 bits", x.begin(0), 1);
        due("35 16 bits", x.state(), 4);
        x.sheet(0, 32, 1);
        x.put(0, 0, 65536 + 5);
        due("35 32 bits", x.begin(0), 0);
        x.put(0, 0, 6);
        due("35 32 bits", x.begin(0), 1);
    }

    private static void move() {
        RingChoir x = choir(7, 0, 0, 0, 0);
        lay(x, 0, 8, 1, 2, 3, 4);
        due("36 up", x.move(0, 0, 0, 1, 3), 3);
        x.begin(0);
        due("36 1 1 2 3", x.state(), 1 + 7 + 2 * 49 + 3 * 343);
        lay(x, 0, 8, 1, 2, 3, 4);
        due("36 down", x.move(0, 1, 0, 0, 3), 3);
        x.begin(0);
        due("36 2 3 4 4", x.state(), 2 + 21 + 4 * 49 + 4 * 343);
        lay(x, 1, 8, 6, 6);
        due("36 to another", x.move(0, 2, 1, 0, 2), 2);
        x.begin(1);
        due("36 4 4 4 4", x.state(), 4 + 28 + 4 * 49 + 4 * 343);
        due("36 none", x.move(0, 4, 1, 2, 0), 0);
        due("36 i", x.move(0, 3, 1, 0, 2), BEYOND);
        due("36 j", x.move(0, 0, 1, 1, 2), BEYOND);
        due("36 n -1", x.move(0, 0, 1, 0, -1), BEYOND);
        due("36 i -1", x.move(0, -1, 1, 0, 1), BEYOND);
        due("36 j -1", x.move(0, 0, 1, -1, 1), BEYOND);
        due("36 n greatest", x.move(0, 1, 1, 0, Integer.MAX_VALUE), BEYOND);
        due("36 i greatest", x.move(0, Integer.MAX_VALUE, 1, 0, 1), BEYOND);
        due("36 j greatest", x.move(0, 0, 1, Integer.MAX_VALUE, 1), BEYOND);
        due("36 missing", x.move(0, 0, 2, 0, 1), NONE);
        due("36 missing", x.move(2, 0, 0, 0, 1), NONE);
        lay(x, 2, 16, 1);
        due("36 unlike", x.move(0, 0, 2, 0, 1), KIND);
        due("36 unlike ahead of n", x.move(0, 0, 2, 0, -1), KIND);
        due("36 sheet 4", x.move(4, 0, 2, 0, 1), BEYOND);
        due("36 other 4", x.move(3, 0, 4, 0, 1), BEYOND);
        due("36 sheet -1", x.move(-1, 0, 0, 0, 1), BEYOND);
        due("36 other -1", x.move(0, 0, -1, 0, 1), BEYOND);
    }

    private static void image() {
        RingChoir x = choir(5, 601, 102);
        law(x, 0, "l+1");
        law(x, 1, "n*2");
        x.net(1, 1, 1);
        singNotes(x, 3, 4);
        x.sing(1, 1, 2);
        x.seed(77);
        x.bars(1);
        long state = x.state();
        int next = x.ofSinger(0, 5);
        feedText(x, "l*");
        x.tell(9);
        due("37 once", x.image(), 1);
        x.sing(0, 0, 0);
        x.sing(1, 0, 0);
        x.sing(1, 1, -1);
        x.sing(0, 1, 1);
        x.text(0);
        law(x, 0, "l");
        law(x, 1, "n*3");
        x.notes(9);
        x.rule(0, 0, 0);
        x.singer(2, 2);
        x.ring(1);
        x.net(0, 0, 0);
        x.seed(1);
        x.bars(20);
        feedText(x, "789");
        x.tell(1);
        x.tell(2);
        x.voice(0, 0, 0);
        lay(x, 0, 8, 1, 1);
        int errors = x.told(1);
        due("38 BAR", x.restore(), 1);
        due("38 state", x.state(), state);
        due("38 N", x.count(1), 5);
        due("38 singers", x.count(2), 2);
        due("38 wishes", x.count(3), 1);
        due("38 wish", x.ofSinger(1, 6), 2);
        due("38 tape", x.count(4), 2);
        due("38 waiting", x.count(5), 1);
        due("38 trace stays", x.count(6), 1);
        due("38 z", x.count(7), 77);
        due("38 kind", x.ofSinger(0, 0), 6);
        due("38 m", x.ofSinger(0, 1), 1);
        due("38 net", x.ofSinger(1, 3), 1);
        due("38 net", x.ofSinger(1, 7), 1);
        due("38 net", x.ofSinger(1, 4), 1);
        due("38 ring", x.ofSinger(0, 3), 1);
        due("38 ring", x.ofSinger(0, 4), 0);
        due("38 next", x.ofSinger(0, 5), next);
        due("38 adds", x.law(0, 4, 0, 0, 0), 5);
        due("38 worth", x.law(1, 4, 0, 0, 0), 8);
        x.feed('s', 1);
        due("38 tape", x.text(0), 1);
        due("38 tape was l*", x.law(0, 4, 3, 0, 0), 12);
        due("38 told stays", x.told(1), errors);
        due("38 sheets stay", x.begin(0), 2);
        due("38 again", x.restore(), 1);
        due("38 the image stays", x.state(), state);
        due("38 waiting 9", x.check(0), 1);
        x.bars(3);
        due("37 twice", x.image(), 2);
        x.bars(5);
        due("38 in place of the one ahead", x.restore(), 4);
        due("37 thrice", x.image(), 3);
        due("38 none", new RingChoir().restore(), NONE);
        RingChoir y = choir(7, 103);
        y.tell(3);
        y.tell(6);
        y.image();
        y.rule(0, 1, 4);
        due("38 0 + 4", y.ofSinger(0, 5), 4);
        due("40 isn't so", y.check(0), 1);
        y.tell(4);
        y.tell(1);
        due("40 is so", y.check(0), 0);
        y.restore();
        due("38 0 + 3 again", y.ofSinger(0, 5), 3);
        due("38 waiting 3 6", y.check(0), 0);
        y.singer(1, 1);
        y.sing(1, 0, 5);
        y.bars(2);
        y.restore();
        y.bars(1);
        y.singer(0, 0);
        due("3 silent at first, behind an image, too", y.ofSinger(1, 2), 0);
    }

    private static void tell() {
        RingChoir x = choir(7, 0);
        for (int i = 1; i <= 20; i++) {
            due("39 how many", x.tell(-i), i);
        }
        due("39 full", x.tell(0), FULL);
        due("39 20", x.count(5), 20);
        x.check(0);
        due("39 again", x.tell(0), 1);
    }

    private static void check() {
        RingChoir x = choir(7, 0, 0, 0);
        singNotes(x, 1, 2, 3);
        due("40 none", x.check(0), 0);
        x.tell(3);
        x.tell(2);
        x.tell(1);
        x.tell(3);
        due("40 all so", x.check(0), 0);
        due("40 none wait", x.count(5), 0);
        x.tell(3);
        x.tell(2);
        x.tell(0);
        due("40 the third", x.check(0), 3);
        due("40 none wait", x.count(5), 0);
        x.tell(1);
        due("40 the first", x.check(0), 1);
        x.tell(5);
        due("40 singer 3", x.check(3), BEYOND);
        due("40 none wait, too", x.count(5), 0);
        due("40 singer -1", x.check(-1), BEYOND);
        due("40 nothing goes by", x.count(0), 0);
    }

    private static void count() {
        RingChoir x = choir(9, 0, 0);
        x.bars(7);
        x.sing(0, 1, 0);
        x.feed(0, 3);
        x.tell(0);
        x.voice(0, 1, 0);
        x.seed(-9);
        int[] want = {7, 9, 2, 1, 3, 1, 2, -9};
        for (int i = 0; i < want.length; i++) {
            due("41 what " + i, x.count(i), want[i]);
        }
        due("41 what 8", x.count(8), BEYOND);
        due("41 what -1", x.count(-1), BEYOND);
    }

    private static void told() {
        RingChoir x = choir(12, 0, 0, 0, 0, 0, 0, 0, 0);
        due("42 at first", x.told(1), 0);
        x.notes(1);
        x.bars(0);
        x.restore();
        x.never();
        x.never();
        x.never();
        x.singer(0, 0);
        x.as(0, 1);
        x.as(0, 2);
        due("42 BEYOND", x.told(1), 2);
        due("42 NONE", x.told(2), 1);
        due("42 STATE", x.told(3), 3);
        due("42 FULL", x.told(4), 1);
        due("42 KIND", x.told(5), 2);
        due("42 k 0", x.told(0), BEYOND);
        due("42 k 6", x.told(6), BEYOND);
        due("42 k -1", x.told(-1), BEYOND);
        due("42 counted, too", x.told(1), 5);
        x.text(0);
        due("42 a FAULT is none", x.told(1), 5);
    }
}
