/**
 * The edges of Terms 3, as far as it speaks of what is ahead and of all STATES, and of promises 16 to 24: each
 * test's remark has the sentence that it holds. Refused calls are held against a twin (Edges.refused), and what is
 * asked alone changes nothing (Edges.asked).
 */
public final class AheadEdgesTest {
    private static final int BEYOND = Edges.BEYOND;
    private static final int NONE = Edges.NONE;
    private static final int STATE = Edges.STATE;

    public static void main(String[] args) {
        farBeyond();
        farTaken();
        worthsBeyond();
        worthsTaken();
        worthsHeld();
        roundBeyond();
        roundTaken();
        roundOfSixHundred();
        roundFromEachState();
        roundWithATail();
        roundNone();
        roundOfOneAlone();
        noMoreThanThreeThousand();
        fewerThanAhead();
        tooManyStates();
        allOfNoSingers();
        beginningsBeyond();
        beginningsTaken();
        beginningsOfNone();
        beginningsOfAll();
        bestBeyond();
        bestTaken();
        beforeBeyond();
        beforeTaken();
        neverTaken();
        ringsBeyond();
        ringsTaken();
        askedAlone();
        Edges.end("ahead, all states");
    }

    private static void due(String what, long got, long want) {
        Edges.due(what, got, want);
    }

    /** Singers in a ring who sing what they hear. */
    private static RingChoir plain(int n, int singers) {
        return Edges.choir(n, new int[singers]);
    }

    // ---- promises 16 and 17

    /** Promise 16: "AHEAD by n: the NOTE of a SINGER. BEYOND"; Terms 3: "AHEAD by n (0 to 500) BARS". */
    private static void farBeyond() {
        Edges.outside("16 n", BEYOND, 0, 500, (x, v) -> x.far(v, 0), Edges.SCENES);
        for (Edges.Scene s : Edges.SCENES) {
            Edges.outside("16 singer, now", BEYOND, 0, s.singers - 1, (x, v) -> x.far(0, v), s);
            Edges.outside("16 singer, in 500", BEYOND, 0, s.singers - 1, (x, v) -> x.far(500, v), s);
            Edges.refused("16 both", s, BEYOND, x -> x.far(501, s.singers));
        }
    }

    /** Terms 3: "AHEAD by n (0 to 500) BARS: as if so many went by". */
    private static void farTaken() {
        int[] now = {4, 3, 2, 1};
        int[] next = {3, 2, 1, 0};
        for (int i = 0; i < 4; i++) {
            int who = i;
            Edges.asked("16 in 0, of " + i, Edges.SOME, now[i], x -> x.far(0, who));
            Edges.asked("16 in 1, of " + i, Edges.SOME, next[i], x -> x.far(1, who));
        }
        RingChoir x = Edges.sung(plain(12, 7), 1, 2, 3, 4, 5, 6, 7);
        for (int i = 0; i < 7; i++) {
            due("16 in 499: 2 of 7", x.far(499, i), 1 + (i + 7 - 2) % 7);
            due("16 in 500: 3 of 7", x.far(500, i), 1 + (i + 7 - 3) % 7);
        }
        due("16 none went by", x.count(0), 0);
        RingChoir full = Edges.CROWD.make();
        RingChoir gone = Edges.CROWD.make();
        gone.bars(500);
        for (int i = 0; i < 8; i++) {
            due("16 as if 500 went by, of " + i, full.far(500, i), gone.ofSinger(i, 2));
        }
    }

    /** Promise 17: "AHEAD by n: WORTHS. BEYOND". */
    private static void worthsBeyond() {
        Edges.outside("17 n", BEYOND, 0, 500, RingChoir::worths, Edges.SCENES);
    }

    /** Promise 17, n 0 and 500; Terms 3: "WORTHS: those of all SINGERS' NOTES together", of no SINGERS 0. */
    private static void worthsTaken() {
        Edges.asked("17 no SINGERS, 0", Edges.EMPTY, 0, x -> x.worths(0));
        Edges.asked("17 no SINGERS, 500", Edges.EMPTY, 0, x -> x.worths(500));
        Edges.asked("17 now: 1, 4, 5, 4", Edges.SOME, 14, x -> x.worths(0));
        Edges.asked("17 in 1: 1, 3, 3, 1", Edges.SOME, 8, x -> x.worths(1));
        RingChoir x = Edges.sung(plain(12, 7), 1, 2, 3, 4, 5, 6, 7);
        Edges.read(x, 1, "(k=6)*n");
        due("17 in 500: what 3 sings", x.worths(500), 4);
        due("17 in 499: what 4 sings", x.worths(499), 5);
    }

    /** Terms 2: each WORTH is "held within -999 to 999", their sum isn't. */
    private static void worthsHeld() {
        RingChoir x = plain(12, 8);
        Edges.read(x, 1, "999");
        due("17 8 times 999", x.worths(0), 7992);
        Edges.read(x, 1, "1000");
        due("17 8 times 1000, held", x.worths(500), 7992);
        Edges.read(x, 1, "0-1000");
        due("17 8 times -1000, held", x.worths(500), -7992);
        Edges.read(x, 1, "2048*1024*1024");
        due("17 8 times the smallest int, held", x.worths(0), -7992);
        Edges.read(x, 1, "(k<4)*2000-1000");
        due("17 4 of each", x.worths(0), 0);
    }

    // ---- promise 19

    /** Promise 19: "what 0 TAIL, 1 LENGTH. BEYOND", ahead of "NONE". */
    private static void roundBeyond() {
        Edges.outside("19 what", BEYOND, 0, 1, RingChoir::round, Edges.SCENES);
        Edges.outside("19 what, ahead of NONE", BEYOND, 0, 1, RingChoir::round, late());
    }

    /** Terms 3: ROUND at its smallest: TAIL 0, LENGTH 1. */
    private static void roundTaken() {
        Edges.asked("19 no SINGERS: TAIL", Edges.EMPTY, 0, x -> x.round(0));
        Edges.asked("19 no SINGERS: LENGTH", Edges.EMPTY, 1, x -> x.round(1));
        for (int singers = 1; singers <= 8; singers++) {
            RingChoir x = plain(12, singers);
            due("19 silence: TAIL", x.round(0), 0);
            due("19 silence: LENGTH", x.round(1), 1);
            x.sing(0, 0, 11);
            due("19 around: TAIL", x.round(0), 0);
            due("19 around: LENGTH", x.round(1), singers);
            x.net(0, 0, 0);
            due("19 to all: TAIL", x.round(0), singers - 1);
            due("19 to all: LENGTH", x.round(1), 1);
        }
    }

    /** Terms 3: "within 600 BARS": LENGTH 600 at once is, one BAR ahead of it isn't. */
    private static void roundOfSixHundred() {
        RingChoir x = Edges.sixHundred();
        due("19 TAIL", x.round(0), 0);
        due("19 LENGTH", x.round(1), 600);
        due("19 a bar on: TAIL", x.bars(1) == 1 ? x.round(0) : -1, 0);
        due("19 a bar on: LENGTH", x.round(1), 600);
        due("19 no ERROR", x.told(2), 0);
        x.bars(500);
        x.bars(99);
        due("19 600 bars on", x.state(), 1);
        due("19 600 bars on: LENGTH", x.round(1), 600);
    }

    /** Terms 3: "within 600 BARS": from each of the 600 STATES of that round it is the same. */
    private static void roundFromEachState() {
        for (int phase = 0; phase < 600; phase++) {
            RingChoir x = Edges.sixHundred();
            Edges.sung(x, phase % 10, phase / 10 % 10, phase % 100 == 0 ? 1 : 0, phase / 100);
            due("19 from " + phase + ": TAIL", x.round(0), 0);
            due("19 from " + phase + ": LENGTH", x.round(1), 600);
        }
    }

    /** Terms 3: "within 600 BARS": TAIL and LENGTH together are 599, 600 and 601. */
    private static void roundWithATail() {
        int[] phases = {122, 121};
        for (int phase : phases) {
            RingChoir x = Edges.clock(phase);
            x.sing(3, 0, 8);
            due("19 TAIL", x.round(0), 456 + 121 - phase);
            due("19 LENGTH", x.round(1), 144);
        }
        RingChoir last = Edges.clock(120);
        last.sing(3, 0, 8);
        due("19 601: TAIL", last.round(0), NONE);
        due("19 601: LENGTH", last.round(1), NONE);
        last.bars(1);
        due("19 601 less the one that went by: TAIL", last.round(0), 456);
        due("19 601 less the one that went by: LENGTH", last.round(1), 144);
    }

    /** A round of 600 bars with one bar ahead of it. */
    private static Edges.Scene late() {
        return new Edges.Scene("601 bars", 10, 4, () -> {
            RingChoir x = Edges.sixHundred();
            x.sing(0, 0, 0);
            return x;
        });
    }

    /** Promise 19: "NONE: not within 600 BARS". */
    private static void roundNone() {
        Edges.refused("19 601: TAIL", late(), NONE, x -> x.round(0));
        Edges.refused("19 601: LENGTH", late(), NONE, x -> x.round(1));
        RingChoir x = late().make();
        x.bars(1);
        due("19 the one that went by was too many", x.round(1), 600);
    }

    /** Terms 3: ROUND of one who counts by 1, by N, by 99 (the most). */
    private static void roundOfOneAlone() {
        for (int n = 2; n <= 12; n++) {
            RingChoir x = Edges.choir(n, 101);
            due("19 counting: TAIL", x.round(0), 0);
            due("19 counting: LENGTH", x.round(1), n);
            x.rule(0, 1, n);
            due("19 counting by N: LENGTH", x.round(1), 1);
            x.rule(0, 1, 99);
            int length = 1;
            while (99 * length % n != 0) {
                length++;
            }
            due("19 counting by 99: LENGTH", x.round(1), length);
        }
    }

    // ---- all states

    /** Terms 3: "asked with no more than 3000 of them (N to the power of how many SINGERS there are; STATE otherwise)". */
    private static void noMoreThanThreeThousand() {
        for (int n = 2; n <= 12; n++) {
            long states = 1;
            for (int singers = 0; singers <= 8; singers++) {
                RingChoir x = plain(n, singers);
                boolean asked = states <= 3000;
                String of = " of " + n + " to the power of " + singers;
                due("20" + of, x.beginnings(0, 0), asked ? states : STATE);
                due("20 first" + of, x.beginnings(60, 1), asked ? 0 : STATE);
                due("21" + of, x.best(60), asked ? states - 1 : STATE);
                due("22" + of, x.before(0), asked ? 1 : STATE);
                due("22 least" + of, x.before(1), asked ? 0 : STATE);
                due("23" + of, x.never(), asked ? 0 : STATE);
                due("24" + of, x.rings(0), asked ? necklaces(n, singers) : STATE);
                due("24 longest" + of, x.rings(1), asked ? Math.max(1, singers) : STATE);
                states *= n;
            }
        }
    }

    /** In how many ways a ring can sing, where those that go over into one another count as one. */
    private static long necklaces(int n, int singers) {
        if (singers == 0) {
            return 1;
        }
        long sum = 0;
        for (int turn = 0; turn < singers; turn++) {
            sum += (long) Math.pow(n, gcd(turn, singers));
        }
        return sum / singers;
    }

    private static int gcd(int a, int b) {
        return a == 0 ? b : gcd(b % a, a);
    }

    /** Terms 3: as many STATES as there are now, when there were more when it was asked ahead. */
    private static void fewerThanAhead() {
        for (int n = 2; n <= 6; n++) {
            RingChoir x = plain(7, 4);
            due("23 2401", x.never(), 0);
            x.notes(n);
            for (int i = 0; i < 4; i++) {
                x.rule(i, 3, 0);
                x.net(i, 0, 0);
            }
            int states = n * n * n * n;
            due("20 to silence, of " + n, x.beginnings(1, 0), states);
            due("21 to silence, of " + n, x.best(1), 0);
            due("22 to silence, of " + n, x.before(0), states);
            due("23 to silence, of " + n, x.never(), states - 1);
            due("24 to silence, of " + n, x.rings(0), 1);
            due("24 to silence, of " + n + ": LONGEST", x.rings(1), 1);
        }
    }

    /** Promises 20 to 24: "STATE". */
    private static void tooManyStates() {
        Edges.Scene above = new Edges.Scene("3125 states", 5, 5, () -> plain(5, 5));
        for (Edges.Scene s : new Edges.Scene[] {Edges.CROWD, above}) {
            for (int what = 0; what < 2; what++) {
                int of = what;
                Edges.refused("20 n 0", s, STATE, x -> x.beginnings(0, of));
                Edges.refused("20 n 60", s, STATE, x -> x.beginnings(60, of));
                Edges.refused("22", s, STATE, x -> x.before(of));
                Edges.refused("24", s, STATE, x -> x.rings(of));
            }
            Edges.refused("21 n 0", s, STATE, x -> x.best(0));
            Edges.refused("21 n 60", s, STATE, x -> x.best(60));
            Edges.refused("23", s, STATE, RingChoir::never);
        }
    }

    /** Terms 3: N to the power of no SINGERS is one STATE, 0. */
    private static void allOfNoSingers() {
        Edges.Scene e = Edges.EMPTY;
        Edges.asked("20 how many", e, 1, x -> x.beginnings(0, 0));
        Edges.asked("20 first", e, 0, x -> x.beginnings(60, 1));
        Edges.asked("21", e, 0, x -> x.best(0));
        Edges.asked("21", e, 0, x -> x.best(60));
        Edges.asked("22 how many", e, 1, x -> x.before(0));
        Edges.asked("22 least", e, 0, x -> x.before(1));
        Edges.asked("23", e, 0, RingChoir::never);
        Edges.asked("24 how many", e, 1, x -> x.rings(0));
        Edges.asked("24 longest", e, 1, x -> x.rings(1));
    }

    /** Promise 20: "BEYOND", ahead of "STATE"; Terms 3: "by n (0 to 60)". */
    private static void beginningsBeyond() {
        Edges.outside("20 n", BEYOND, 0, 60, (x, v) -> x.beginnings(v, 0), Edges.SCENES);
        Edges.outside("20 n, first", BEYOND, 0, 60, (x, v) -> x.beginnings(v, 1), Edges.SCENES);
        Edges.outside("20 what", BEYOND, 0, 1, (x, v) -> x.beginnings(0, v), Edges.SCENES);
        Edges.outside("20 both", BEYOND, 0, 1, (x, v) -> x.beginnings(v < 0 ? v : 61, v), Edges.SCENES);
    }

    /** Terms 3: "STATES from which in n BARS all SINGERS that have a WISH sing it": n 0 and 60, silence as a WISH. */
    private static void beginningsTaken() {
        RingChoir x = plain(7, 4);
        x.sing(0, 1, 6);
        due("20 now", x.beginnings(0, 0), 343);
        due("20 now: first", x.beginnings(0, 1), 6);
        due("20 in 1: 3 sings it now", x.beginnings(1, 1), 6 * 343);
        due("20 in 59: 1 sings it now", x.beginnings(59, 1), 6 * 7);
        due("20 in 60: as now", x.beginnings(60, 1), 6);
        due("20 in 60", x.beginnings(60, 0), 343);
        x.sing(0, 1, 0);
        due("20 silence is a WISH", x.beginnings(60, 0), 343);
        due("20 silence: first", x.beginnings(60, 1), 0);
        x.sing(3, 1, 1);
        due("20 two", x.beginnings(60, 0), 49);
        due("20 two: first", x.beginnings(60, 1), 343);
        x.sing(3, 1, -1);
        x.sing(0, 1, -1);
        due("20 none has one: all", x.beginnings(60, 0), 2401);
        due("20 none has one: first", x.beginnings(60, 1), 0);
    }

    /** Promise 20: "FIRST (-1: none)". */
    private static void beginningsOfNone() {
        RingChoir x = Edges.choir(7, 300);
        x.sing(0, 1, 6);
        due("20 now, how many", x.beginnings(0, 0), 1);
        due("20 now, first", x.beginnings(0, 1), 6);
        for (int n : new int[] {1, 60}) {
            due("20 never, how many", x.beginnings(n, 0), 0);
            due("20 never, first", x.beginnings(n, 1), -1);
        }
        due("20 no ERROR", x.told(2), 0);
    }

    /** Terms 3: a WISH of all SINGERS: one STATE alone, the last of all, too. */
    private static void beginningsOfAll() {
        RingChoir x = plain(3, 7);
        for (int i = 0; i < 7; i++) {
            x.sing(i, 1, 2);
        }
        due("20 one", x.beginnings(60, 0), 1);
        due("20 the last of all", x.beginnings(60, 1), 2186);
        x.sing(6, 1, 1);
        due("20 in 0", x.beginnings(0, 1), 2186 - 729);
        due("20 in 1: 5 sings it now", x.beginnings(1, 1), 2186 - 243);
        due("20 in 7", x.beginnings(7, 1), 2186 - 729);
    }

    /** Promise 21: "BEYOND", ahead of "STATE"; Terms 3: "BEST by n", n as with BEGINNINGS (0 to 60). */
    private static void bestBeyond() {
        Edges.outside("21 n", BEYOND, 0, 60, RingChoir::best, Edges.SCENES);
    }

    /** Terms 3: "the STATE from which in n BARS WORTHS are most; of several the least". */
    private static void bestTaken() {
        RingChoir x = plain(7, 4);
        due("21 now", x.best(0), 2400);
        due("21 in 60", x.best(60), 2400);
        Edges.read(x, 1, "(k=0)*n");
        due("21 0 sings 6", x.best(0), 6);
        due("21 3 sings 6", x.best(1), 6 * 343);
        due("21 1 sings 6", x.best(59), 6 * 7);
        due("21 0 sings 6", x.best(60), 6);
        Edges.read(x, 1, "5");
        due("21 all alike: the least", x.best(60), 0);
        Edges.read(x, 1, "0-999");
        due("21 all alike at the smallest", x.best(0), 0);
        Edges.read(x, 1, "(k=3&n=6)-999");
        due("21 most is below 0", x.best(0), 6 * 343);
        Edges.read(x, 1, "n*1000");
        due("21 held: 1 is as much as 6", x.best(0), 1 + 7 + 49 + 343);
        Edges.read(x, 1, "0-n*1000");
        due("21 held: silence", x.best(60), 0);
    }

    /** Promise 22: "BEYOND", ahead of "STATE". */
    private static void beforeBeyond() {
        Edges.outside("22 what", BEYOND, 0, 1, RingChoir::before, Edges.SCENES);
    }

    /** Promise 22: "what 0 how many, 1 the least (-1: none)": none, one, all. */
    private static void beforeTaken() {
        RingChoir x = Edges.sung(plain(7, 4), 1, 2, 3, 4);
        due("22 one", x.before(0), 1);
        due("22 one: it", x.before(1), 2 + 3 * 7 + 4 * 49 + 343);
        for (int i = 0; i < 4; i++) {
            x.net(i, 0, 0);
        }
        due("22 none", x.before(0), 0);
        due("22 none: least", x.before(1), -1);
        Edges.sung(x, 6, 6, 6, 6);
        due("22 all in which 0 sings 6", x.before(0), 343);
        due("22 least", x.before(1), 6);
        RingChoir gated = Edges.choir(7, 300);
        due("22 all: 7", gated.before(0), 7);
        due("22 all: least", gated.before(1), 0);
        due("22 no ERROR", x.told(2), 0);
    }

    /** Terms 3: "NEVER: how many STATES are behind none": none, all but one. */
    private static void neverTaken() {
        due("23 none", plain(7, 4).never(), 0);
        due("23 all but silence", Edges.choir(7, 300).never(), 6);
        RingChoir x = plain(7, 4);
        for (int i = 0; i < 4; i++) {
            x.rule(i, 3, 0);
            x.net(i, 0, 0);
        }
        due("23 all but silence", x.never(), 2400);
    }

    /** Promise 24: "BEYOND", ahead of "STATE". */
    private static void ringsBeyond() {
        Edges.outside("24 what", BEYOND, 0, 1, RingChoir::rings, Edges.SCENES);
    }

    /** Terms 3: "RINGS: how many rounds STATES make, the LONGEST": one alone, all, one of all STATES. */
    private static void ringsTaken() {
        due("24 one", Edges.choir(7, 300).rings(0), 1);
        due("24 one of 1", Edges.choir(7, 300).rings(1), 1);
        RingChoir own = plain(7, 4);
        for (int i = 0; i < 4; i++) {
            own.net(i, i, i);
        }
        due("24 each its own", own.rings(0), 2401);
        due("24 each its own: LONGEST", own.rings(1), 1);
        RingChoir two = Edges.choir(12, 101, 600);
        Edges.read(two, 0, "s=11");
        two.net(0, 0, 0);
        two.net(1, 1, 0);
        due("24 one of all", two.rings(0), 1);
        due("24 one of all: LONGEST", two.rings(1), 144);
        two.rule(0, 1, 0);
        due("24 0 is still: 11 times 12 of their own, and one of 12", two.rings(0), 133);
        due("24 0 is still: LONGEST", two.rings(1), 12);
        RingChoir last = Edges.choir(12, 101);
        due("24 all 12", last.rings(1), 12);
        RingChoir bits = Edges.choir(2, 200, 0, 0, 0, 0, 0, 0);
        due("24 silence, and all else in one", bits.rings(0), 2);
        due("24 silence, and all else in one: LONGEST", bits.rings(1), 127);
    }

    /** Terms: what is asked ahead and of all STATES changes nothing; twice the same answer. */
    private static void askedAlone() {
        Edges.Scene s = Edges.SOME;
        RingChoir y = s.make();
        Edges.asked("16", s, y.far(500, 3), x -> x.far(500, 3));
        Edges.asked("17", s, y.worths(500), x -> x.worths(500));
        for (int what = 0; what < 2; what++) {
            int of = what;
            Edges.asked("19", s, y.round(of), x -> x.round(of));
            Edges.asked("20", s, y.beginnings(60, of), x -> x.beginnings(60, of));
            Edges.asked("22", s, y.before(of), x -> x.before(of));
            Edges.asked("24", s, y.rings(of), x -> x.rings(of));
        }
        Edges.asked("21", s, y.best(60), x -> x.best(60));
        Edges.asked("23", s, y.never(), RingChoir::never);
        due("no ERROR", y.told(2), 1);
    }
}
