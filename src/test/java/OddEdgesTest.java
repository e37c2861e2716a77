/**
 * The edges of Terms 3, as far as it speaks of odd ones, coughs, tunes and of what makes it longer, and of
 * promises 25 to 30: each test's remark has the sentence that it holds. Refused calls are held against a twin
 * (Edges.refused), and what is asked alone changes nothing (Edges.asked).
 */
public final class OddEdgesTest {
    private static final int BEYOND = Edges.BEYOND;
    private static final int NONE = Edges.NONE;
    private static final int LEAST = Edges.LEAST;
    private static final int MOST = Edges.MOST;

    public static void main(String[] args) {
        fewestSheets();
        wholeBars();
        wholeBarsOfEight();
        fewestOfNoSingers();
        toldWhatIsNoNote();
        madeBeyond();
        madeNone();
        madeItsOwn();
        madeFirst();
        madeByNoRule();
        heardBeyond();
        heardTaken();
        coughCountedRound();
        goneBeyond();
        goneTaken();
        goneNone();
        tuneSheets();
        tuneNowhere();
        tuneInBars();
        tuneOfForty();
        tuneFirstBarLeastSinger();
        longerBeyond();
        longerNone();
        longerWithin();
        longerTaken();
        longerKinds();
        askedAlone();
        Edges.end("odd ones, coughs, tunes");
    }

    private static void due(String what, long got, long want) {
        Edges.due(what, got, want);
    }

    // ---- promises 25 and 26

    /** Promise 25: "BEYOND: no such SHEET. NONE: it is missing". */
    private static void fewestSheets() {
        Edges.outside("25 sheet", BEYOND, 0, 3, RingChoir::fewest, Edges.SCENES);
        for (int s = 0; s < 4; s++) {
            int of = s;
            Edges.refused("25 missing " + s, Edges.EMPTY, NONE, x -> x.fewest(of));
            Edges.asked("25 there " + s, Edges.CROWD, Edges.CROWD.make().fewest(s), x -> x.fewest(of));
        }
        Edges.refused("25 missing 2", Edges.SOME, NONE, x -> x.fewest(2));
        Edges.asked("25 no numbers", Edges.SOME, 0, x -> x.fewest(3));
    }

    /** Terms 3: "what isn't a whole BAR doesn't count": 0, 1, 2, 3 and more numbers for three SINGERS. */
    private static void wholeBars() {
        int[] odd = {0, 0, 0, 3, 3, 3, 3};
        for (int size = 0; size < odd.length; size++) {
            RingChoir x = Edges.sung(Edges.choir(7, 0, 0, 0), 1, 2, 3);
            due("25 of " + size, Edges.laid(x, 0, 8, Edges.row(size, 6)).fewest(0), odd[size]);
        }
        RingChoir x = Edges.sung(Edges.choir(7, 0, 0, 0), 1, 2, 3);
        Edges.laid(x, 0, 8, 3, 1, 2, 6, 6);
        due("25 5: the second isn't whole", x.fewest(0), 0);
        Edges.laid(x, 0, 8, 3, 1, 2, 6, 6, 6);
        due("25 6: the second is whole", x.fewest(0), 3);
        Edges.laid(x, 0, 8, 3, 1, 2, 2, 3, 1);
        due("25 as it goes", x.fewest(0), 0);
        Edges.laid(x, 0, 8, 3, 1, 2, 2, 3, 0);
        due("25 the last number", x.fewest(0), 1);
        Edges.laid(x, 0, 8, 4, 1, 2, 2, 4, 1);
        due("25 the first number; what comes of it is heard", x.fewest(0), 1);
    }

    /** Terms 3: a full SHEET for a full choir is five BARS; one number less is four. */
    private static void wholeBarsOfEight() {
        RingChoir x = Edges.choir(12, new int[8]);
        Edges.sung(x, 0, 1, 2, 3, 4, 5, 6, 7);
        x.sheet(0, 8, 40);
        x.sheet(1, 8, 39);
        for (int i = 0; i < 40; i++) {
            int note = (i % 8 + 8 * 5 - 1 - i / 8) % 8;
            x.put(0, i, note);
            x.put(1, i, note);
        }
        due("25 five as they go", x.fewest(0), 0);
        due("25 four as they go", x.fewest(1), 0);
        x.put(0, 39, 11);
        due("25 the fortieth counts", x.fewest(0), 1);
        x.put(1, 38, 11);
        x.put(1, 32, 11);
        due("25 of 39 the last seven don't", x.fewest(1), 0);
        x.put(1, 31, 11);
        due("25 the 32nd does", x.fewest(1), 1);
        due("26 7 is odd, by each RULE", x.made(1, 7), NONE);
        due("26 6 isn't", x.made(1, 6), 0);
    }

    /** Terms 3: without SINGERS nobody is odd, be the SHEET full or empty. */
    private static void fewestOfNoSingers() {
        for (int size : new int[] {0, 1, 40}) {
            RingChoir x = Edges.laid(new RingChoir(), 0, 8, Edges.row(size, 1));
            due("25 of " + size, x.fewest(0), 0);
        }
    }

    /** Terms 3: who is told to sing what is no NOTE is odd: N, -1, the smallest, the largest int. */
    private static void toldWhatIsNoNote() {
        for (int v : new int[] {7, -1, 127, -128, LEAST, MOST, 14, -7}) {
            RingChoir x = Edges.choir(7, 0);
            Edges.laid(x, 0, 32, v);
            due("25 told " + v, x.fewest(0), 1);
            due("26 told " + v, x.made(0, 0), NONE);
        }
        RingChoir x = Edges.choir(7, 106);
        due("25 told N less 1", Edges.laid(x, 0, 8, 6).fewest(0), 0);
        due("25 told 256 in 8 bits, which is 0", Edges.laid(x, 0, 8, 6, 5, 256 + 4).fewest(0), 0);
        due("25 told 256 in 16 bits", Edges.laid(x, 0, 16, 6, 5, 256 + 4).fewest(0), 1);
    }

    /** Promise 26: "BEYOND", ahead of "NONE: it is missing". */
    private static void madeBeyond() {
        for (Edges.Scene s : Edges.SCENES) {
            Edges.outside("26 sheet", BEYOND, 0, 3, (x, v) -> x.made(v, 0), s);
            Edges.outside("26 singer", BEYOND, 0, s.singers - 1, (x, v) -> x.made(0, v), s);
            Edges.outside("26 singer of a missing one", BEYOND, 0, s.singers - 1, (x, v) -> x.made(2, v), s);
            Edges.refused("26 both", s, BEYOND, x -> x.made(4, s.singers));
        }
    }

    /** Promise 26: "NONE: it is missing". */
    private static void madeNone() {
        for (int i = 0; i < 4; i++) {
            int who = i;
            Edges.refused("26 missing", Edges.SOME, NONE, x -> x.made(2, who));
            Edges.refused("26 missing at first", new Edges.Scene("no sheets", 7, 4, () -> Edges.choir(7, new int[4])), NONE,
                x -> x.made(who, who));
        }
    }

    /** Terms 3: MADE: "its own if it isn't odd": any KIND 0 to 6, any m 0 to 99; with no whole BAR, too. */
    private static void madeItsOwn() {
        for (int kind = 0; kind <= 6; kind++) {
            for (int m : new int[] {0, 6, 7, 99}) {
                RingChoir x = Edges.choir(7, 100 * kind + m, 0);
                x.sheet(0, 8, 0);
                due("26 no numbers", x.made(0, 0), 100 * kind + m);
                due("26 no whole BAR", Edges.laid(x, 0, 8, 6).made(0, 0), 100 * kind + m);
                due("26 as it goes", Edges.laid(x, 0, 8, x.far(1, 0), 0).made(0, 0), 100 * kind + m);
            }
        }
    }

    /** Terms 3: "of all KINDS 0 to 5 and all m from 0 to N less 1 the first, by KIND, then by m". */
    private static void madeFirst() {
        RingChoir x = Edges.sung(Edges.choir(12, 699, 0, 0), 0, 5, 3);
        Edges.laid(x, 0, 8, 3, 1, 2);
        due("26 the first of all", x.made(0, 0), 0);
        Edges.laid(x, 0, 8, 4, 1, 2);
        due("26 SHIFTED by 1", x.made(0, 0), 101);
        Edges.laid(x, 0, 8, 2, 1, 2);
        due("26 SHIFTED by N less 1", x.made(0, 0), 111);
        Edges.laid(x, 0, 8, 8, 1, 2, 3, 0, 0);
        due("26 SUMMED", x.made(0, 0), 200);
        Edges.laid(x, 0, 8, 0, 1, 2, 0, 0, 0);
        due("26 GATED", x.made(0, 0), 300);
        Edges.laid(x, 0, 8, 9, 1, 2, 4, 0, 0);
        due("26 RAISED by 1", x.made(0, 0), 401);
        Edges.laid(x, 0, 8, 7, 1, 2, 2, 0, 0);
        due("26 RAISED by N less 1", x.made(0, 0), 411);
        Edges.laid(x, 0, 8, 5, 1, 2, 1, 0, 3, 3, 0, 0);
        due("26 GREATER: 5 of 3, 1 of 2, 3 ungated", x.made(0, 0), 500);
        due("26 the RULE stays", x.rule(0, 0, 0), 699);
    }

    /** Promise 26: "NONE: .. by no RULE": one of KIND 6 would do, and does if it is its own. */
    private static void madeByNoRule() {
        Edges.Scene s = new Edges.Scene("only TELLING would", 12, 3, () -> {
            RingChoir x = Edges.sung(Edges.choir(12, 0, 0, 0), 0, 5, 3);
            Edges.read(x, 0, "l*l");
            return Edges.laid(x, 1, 16, 0, 1, 2, 6, 4, 5, 6, 0, 0);
        });
        Edges.refused("26 by no RULE", s, NONE, x -> x.made(1, 0));
        RingChoir x = s.make();
        x.rule(0, 6, 0);
        due("26 its own", x.made(1, 0), 600);
        x.rule(0, 6, 12);
        due("26 its own", x.made(1, 0), 612);
        x.rule(0, 6, 1);
        due("26 not with another m", x.made(1, 0), NONE);
    }

    // ---- promises 27 and 28

    /** Promise 27: "BEYOND"; Terms 3: "COUGH of a SINGER by d (1 to 11)", "behind n (0 to 200) BARS". */
    private static void heardBeyond() {
        Edges.outside("27 d", BEYOND, 1, 11, (x, v) -> x.heard(0, v, 0), Edges.SCENES);
        Edges.outside("27 n", BEYOND, 0, 200, (x, v) -> x.heard(0, 1, v), Edges.SCENES);
        for (Edges.Scene s : Edges.SCENES) {
            Edges.outside("27 singer", BEYOND, 0, s.singers - 1, (x, v) -> x.heard(v, 1, 0), s);
            Edges.refused("27 all", s, BEYOND, x -> x.heard(s.singers, 12, 201));
        }
    }

    /** Terms 3: "HEARD behind n (0 to 200) BARS: SINGERS whose NOTE is another one .. as bits": none, one, all. */
    private static void heardTaken() {
        RingChoir x = Edges.choir(12, new int[8]);
        for (int who = 0; who < 8; who++) {
            due("27 now", x.heard(who, 1, 0), 1 << who);
            due("27 now, by 11", x.heard(who, 11, 0), 1 << who);
            due("27 in 199: 7 of 8", x.heard(who, 1, 199), 1 << (who + 7) % 8);
            due("27 in 200: 0 of 8", x.heard(who, 11, 200), 1 << who);
        }
        for (int i = 0; i < 8; i++) {
            x.net(i, 0, 0);
        }
        due("27 all", x.heard(0, 1, 1), 255);
        due("27 all in 200", x.heard(0, 1, 200), 255);
        due("27 nobody hears 7", x.heard(7, 1, 1), 0);
        due("27 7 itself", x.heard(7, 1, 0), 128);
        due("27 199 of one that is gone in 200", Edges.clock(89).heard(3, 10, 199), 8);
        due("27 200 of one that is gone in 200", Edges.clock(89).heard(3, 10, 200), 0);
        due("27 200 of one that isn't", Edges.clock(88).heard(3, 10, 200), 8);
    }

    /** Terms 3: "its NOTE now being d more (COUNTED ROUND)": d is N, more, less. */
    private static void coughCountedRound() {
        for (int n = 2; n <= 12; n++) {
            for (int d = 1; d <= 11; d++) {
                RingChoir x = Edges.sung(Edges.choir(n, 0, 0), n - 1, 0);
                boolean same = d % n == 0;
                due("27 by " + d + " of " + n, x.heard(0, d, 0), same ? 0 : 1);
                due("27 by " + d + " of " + n + " in 1", x.heard(0, d, 1), same ? 0 : 2);
                due("28 by " + d + " of " + n, x.gone(0, d), same ? 0 : NONE);
                due("27 its NOTE stays", x.ofSinger(0, 2), n - 1);
            }
        }
        RingChoir x = Edges.sung(Edges.choir(12, 300, 0), 11, 1);
        due("28 silence and no silence are unlike", x.heard(0, 1, 1), 3);
    }

    /** Promise 28: "BEYOND", ahead of "NONE". */
    private static void goneBeyond() {
        Edges.outside("28 d", BEYOND, 1, 11, (x, v) -> x.gone(0, v), Edges.SCENES);
        for (Edges.Scene s : Edges.SCENES) {
            Edges.outside("28 singer", BEYOND, 0, s.singers - 1, (x, v) -> x.gone(v, 1), s);
            Edges.refused("28 both", s, BEYOND, x -> x.gone(s.singers, 12));
        }
        Edges.Scene never = new Edges.Scene("never gone", 7, 2, () -> Edges.choir(7, 0, 0));
        Edges.outside("28 d, ahead of NONE", BEYOND, 1, 11, (x, v) -> x.gone(0, v), never);
    }

    /** Terms 3: "GONE: behind how many BARS (0 to 200) nobody's is, for the first time": 0, 1, 199, 200. */
    private static void goneTaken() {
        due("28 at once", Edges.choir(7, 0, 0).gone(0, 7), 0);
        RingChoir x = Edges.choir(7, 0, 0);
        x.net(0, 0, 0);
        x.net(1, 0, 0);
        due("28 nobody hears it: in 1", x.gone(1, 1), 1);
        for (int in = 197; in <= 200; in++) {
            due("28 in " + in, Edges.clock(289 - in).gone(3, 10), in);
        }
    }

    /** Promise 28: "NONE": not within 200 BARS. */
    private static void goneNone() {
        Edges.Scene late = new Edges.Scene("gone in 201", 12, 4, () -> Edges.clock(88));
        Edges.refused("28 in 201", late, NONE, x -> x.gone(3, 10));
        RingChoir x = late.make();
        x.bars(1);
        due("28 a bar later", x.gone(3, 10), 200);
        Edges.Scene never = new Edges.Scene("never gone", 7, 2, () -> Edges.choir(7, 0, 0));
        Edges.refused("28 never", never, NONE, y -> y.gone(1, 11));
    }

    // ---- promise 29

    /** Promise 29: "BEYOND: no such SHEET. NONE: it is missing; it has no numbers". */
    private static void tuneSheets() {
        Edges.outside("29 sheet", BEYOND, 0, 3, RingChoir::tune, Edges.SCENES);
        for (int s = 0; s < 4; s++) {
            int of = s;
            Edges.refused("29 missing", Edges.EMPTY, NONE, x -> x.tune(of));
            Edges.Scene bare = new Edges.Scene("no numbers", 7, 1, () -> Edges.laid(Edges.choir(7, 0), of, 8));
            Edges.refused("29 no numbers", bare, NONE, x -> x.tune(of));
        }
        Edges.refused("29 missing", Edges.SOME, NONE, x -> x.tune(2));
        Edges.refused("29 no numbers", Edges.SOME, NONE, x -> x.tune(3));
    }

    /** Promise 29: "NONE: .. nowhere": no SINGERS, what is no NOTE, what isn't sung. */
    private static void tuneNowhere() {
        Edges.Scene none = new Edges.Scene("no singers", 7, 0, () -> Edges.laid(new RingChoir(), 0, 8, 0));
        Edges.refused("29 no SINGERS", none, NONE, x -> x.tune(0));
        for (int v : new int[] {7, -1, 6, MOST, LEAST}) {
            Edges.Scene one = new Edges.Scene("one of " + v, 7, 1, () -> Edges.laid(Edges.choir(7, 0), 0, 32, v));
            Edges.refused("29 nowhere", one, NONE, x -> x.tune(0));
        }
        RingChoir x = Edges.choir(7, 0);
        due("29 somewhere", Edges.laid(x, 0, 32, 0).tune(0), 0);
        due("29 the last isn't so", Edges.laid(x, 0, 32, 0, 0, 7).tune(0), NONE);
    }

    /** Terms 3: "the first BAR (0 to 100 from now)": 0, 1, 99, 100, not 101. */
    private static void tuneInBars() {
        for (int in : new int[] {0, 1, 2, 98, 99, 100}) {
            RingChoir x = Edges.clock(143 - in);
            due("29 in " + in, Edges.laid(x, 3, 8, 0, 1, 0).tune(3), 10 * in + 2);
        }
        Edges.Scene late = new Edges.Scene("in 101", 12, 4, () -> Edges.laid(Edges.clock(42), 3, 8, 0, 1, 0));
        Edges.refused("29 in 101", late, NONE, x -> x.tune(3));
        RingChoir x = late.make();
        x.bars(1);
        due("29 a bar later", x.tune(3), 1002);
    }

    /** Terms 4: "at most 40 numbers": a TUNE of 40 goes by in BARS 100 to 139. */
    private static void tuneOfForty() {
        int[] tune = new int[40];
        tune[1] = 1;
        for (int bits = 8; bits <= 32; bits *= 2) {
            due("29 in 0", Edges.laid(Edges.clock(143), 0, bits, tune).tune(0), 2);
            due("29 in 100", Edges.laid(Edges.clock(43), 0, bits, tune).tune(0), 1002);
            due("29 in 101", Edges.laid(Edges.clock(42), 0, bits, tune).tune(0), NONE);
        }
        tune[39] = 1;
        due("29 the fortieth isn't so", Edges.laid(Edges.clock(43), 0, 8, tune).tune(0), NONE);
    }

    /** Terms 3: "the first BAR .. and in that the least SINGER". */
    private static void tuneFirstBarLeastSinger() {
        RingChoir x = Edges.choir(7, new int[8]);
        due("29 all alike", Edges.laid(x, 0, 8, 0, 0).tune(0), 0);
        x.sing(7, 0, 5);
        due("29 the last, now", Edges.laid(x, 0, 8, 5).tune(0), 7);
        due("29 0 is silent now, and then sings what 7 sings now", Edges.laid(x, 0, 8, 0, 5).tune(0), 0);
        due("29 6 is silent for seven bars", Edges.laid(x, 0, 8, 0, 0, 0, 0, 0, 0, 0, 5).tune(0), 6);
        due("29 7 in bar 0 is ahead of 0 in bar 1", Edges.laid(x, 0, 8, 5, 0).tune(0), 7);
    }

    // ---- promise 30

    /** Promise 30: "BEYOND", ahead of "NONE". */
    private static void longerBeyond() {
        Edges.outside("30 what", BEYOND, 0, 1, RingChoir::longer, Edges.SCENES);
    }

    /** Promise 30: "NONE: by none within 600 BARS, or there are no SINGERS". */
    private static void longerNone() {
        Edges.refused("30 no SINGERS: which", Edges.EMPTY, NONE, x -> x.longer(0));
        Edges.refused("30 no SINGERS: LENGTH", Edges.EMPTY, NONE, x -> x.longer(1));
        Edges.Scene both = new Edges.Scene("two of 729", 9, 8, OddEdgesTest::twoOdometers);
        Edges.refused("30 by none: which", both, NONE, x -> x.longer(0));
        Edges.refused("30 by none: LENGTH", both, NONE, x -> x.longer(1));
        Edges.outside("30 what, ahead of NONE", BEYOND, 0, 1, RingChoir::longer, both);
    }

    /** Twice four singers, each four of which make a round of 729 bars: one rule otherwise leaves the other four. */
    private static RingChoir twoOdometers() {
        RingChoir x = Edges.choir(9, 101, 600, 600, 200, 101, 600, 600, 200);
        due("odometer", Edges.read(x, 0, "(s=8)*(k%4=1)+((l=8&s=8)-l)*(k%4=2)"), 1);
        for (int i = 0; i < 8; i += 4) {
            x.net(i, i, i);
            x.net(i + 1, i + 1, i);
            x.net(i + 2, i + 1, i);
            x.net(i + 3, i + 3, i + 2);
        }
        return x;
    }

    /**
     * Terms 3: "ROUND's LENGTH is greatest (as long as it is within 600 BARS)". 0 is still: counting by 1 it would
     * make a round of 144 that is there after 600 bars, or 601: then counting by 5 is the first that is there.
     */
    private static void longerWithin() {
        for (int phase = 120; phase <= 122; phase++) {
            RingChoir x = Edges.clock(phase);
            x.sing(3, 0, 8);
            x.rule(0, 0, 0);
            due("30 which, at " + phase, x.longer(0), phase == 120 ? 105 : 101);
            due("30 LENGTH, at " + phase, x.longer(1), 144);
        }
        RingChoir x = Edges.sixHundred();
        due("30 600: which", x.longer(0), 101);
        due("30 600: LENGTH", x.longer(1), 600);
        x.sing(0, 0, 0);
        due("30 601 by 1; by 3 it is in the round now, as 0 doesn't come behind 9: which", x.longer(0), 103);
        due("30 601 by 1: LENGTH", x.longer(1), 600);
    }

    /** Terms 3: "of all SINGERS, KINDS 0 to 5 and m (0 to N less 1)": one SINGER, the first, m at its ends. */
    private static void longerTaken() {
        for (int n = 2; n <= 12; n++) {
            RingChoir x = Edges.choir(n, 699);
            due("30 SHIFTED by 1", x.longer(0), 101);
            due("30 all of " + n, x.longer(1), n);
            due("30 the RULE stays", x.rule(0, 0, 0), 699);
        }
        RingChoir still = Edges.choir(2, 0, 0);
        still.net(0, 0, 0);
        still.net(1, 1, 1);
        due("30 of several the first", still.longer(0), 101);
        RingChoir second = Edges.choir(7, 101, 0);
        second.net(0, 0, 0);
        second.net(1, 1, 1);
        due("30 the second singer", second.longer(0), 10401);
        due("30 7 times 3", second.longer(1), 21);
        RingChoir one = Edges.choir(7, 300, 300);
        one.net(0, 1, 1);
        one.net(1, 0, 0);
        due("30 the smallest LENGTH: whoever is told otherwise, the other is silent", one.longer(1), 1);
        due("30 the smallest LENGTH: the first of all", one.longer(0), 0);
    }

    /**
     * Terms 3: "KINDS 0 to 5": the first, SUMMED with m 0, and the last. Three singers of two notes make no round
     * of more than 7 bars by sums of what they hear, as silence leads to itself (or, one more, another STATE does).
     * GREATER was found with the program, and is as ModelTest's model has it.
     */
    private static void longerKinds() {
        RingChoir x = Edges.sung(Edges.choir(2, 0, 0, 0), 0, 1, 0);
        due("30 SUMMED", x.longer(0), 200);
        due("30 all but silence", x.longer(1), 7);
        x.rule(1, 2, 0);
        due("30 as it is: the first of all", x.longer(0), 0);
        due("30 all but silence", x.longer(1), 7);
        RingChoir last = Edges.sung(Edges.choir(3, 200, 500, 300), 1, 0, 0);
        due("30 2 by GREATER", last.longer(0), 20500);
        due("30 2 by GREATER", last.longer(1), 6);
    }

    /** Terms: what is asked alone changes nothing, rules tried by LONGER are as they were. */
    private static void askedAlone() {
        for (Edges.Scene s : new Edges.Scene[] {Edges.SOME, Edges.CROWD}) {
            RingChoir y = s.make();
            Edges.asked("25", s, y.fewest(0), x -> x.fewest(0));
            Edges.asked("27", s, y.heard(0, 1, 200), x -> x.heard(0, 1, 200));
            Edges.asked("27", s, y.heard(s.singers - 1, 11, 0), x -> x.heard(s.singers - 1, 11, 0));
            for (int what = 0; what < 2; what++) {
                int of = what;
                Edges.asked("30", s, y.longer(of), x -> x.longer(of));
            }
        }
    }
}
