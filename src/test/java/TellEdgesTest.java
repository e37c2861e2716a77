/**
 * The edges of Terms 3 (draws, voices) and 4 and of promises 31 to 42: each test's remark has the sentence that it
 * holds. Refused calls are held against a twin (Edges.refused), what is asked alone changes nothing (Edges.asked).
 */
public final class TellEdgesTest {
    private static final int BEYOND = Edges.BEYOND;
    private static final int NONE = Edges.NONE;
    private static final int STATE = Edges.STATE;
    private static final int FULL = Edges.FULL;
    private static final int KIND = Edges.KIND;
    private static final int LEAST = Edges.LEAST;
    private static final int MOST = Edges.MOST;
    private static final int[] NO_BITS = {-8, -16, -32, -1, 1, 4, 7, 9, 15, 17, 24, 31, 33, 40, 64, 256, 256 + 8,
        65536 + 16, LEAST, LEAST + 8, MOST};

    public static void main(String[] args) {
        seed();
        draws();
        voiceBeyond();
        voiceOfEachKind();
        voiceGoesRound();
        traceNone();
        traceOfTheLatest();
        sheetBeyond();
        sheetState();
        sheetTaken();
        sheetMissing();
        putRefused();
        putTaken();
        putLowestBits();
        moveSheets();
        moveNone();
        moveKind();
        moveBeyond();
        moveOfNothing();
        moveTaken();
        moveOntoItself();
        image();
        imageKeeps();
        restoreNone();
        restoreStays();
        tell();
        checkBeyond();
        checkPlaces();
        checkOfTwenty();
        countBeyond();
        counts();
        toldBeyond();
        toldCounts();
        Edges.end("draws, voices, sheets, images, what is told");
    }

    private static void due(String what, long got, long want) {
        Edges.due(what, got, want);
    }

    // ---- promises 31 to 33

    /** Promise 31: "z becomes v: what it was (any number)"; Terms 3: "z is told (1 at first)". */
    private static void seed() {
        RingChoir x = new RingChoir();
        int was = 1;
        for (int v : new int[] {0, -1, 1, LEAST, MOST, BEYOND, NONE, STATE, FULL, KIND, Edges.LOW}) {
            due("31 what it was", x.seed(v), was);
            due("41 z", x.count(7), v);
            was = v;
        }
        for (int k = 1; k <= 5; k++) {
            due("31 an answer like an ERROR's isn't counted", x.told(k), 0);
        }
    }

    /** Terms 3: "each makes it z * 1103515245 + 12345 (an int), and gives z >>> 8": with z below 0, too. */
    private static void draws() {
        for (int seed : new int[] {0, 1, -1, LEAST, MOST, 123456789}) {
            for (int singers = 1; singers <= 8; singers++) {
                RingChoir x = Edges.choir(12, new int[singers]);
                x.seed(seed);
                x.loose(1, 100);
                long z = (int) (seed * 1103515245L + 12345);
                long given = (z & 0xFFFFFFFFL) / 256;
                for (int i = 0; i < singers; i++) {
                    due("31 seed " + seed + ": who of " + singers, x.ofSinger(i, 2), given % singers == i ? 1 : 0);
                }
                due("31 z", x.count(7), (int) (z * 1103515245L + 12345));
            }
        }
    }

    /** Promise 32: "A VOICE of a SINGER's RULE: any number. BEYOND"; Terms 3: 0 hears to 3 tells. */
    private static void voiceBeyond() {
        Edges.outside("32 act", BEYOND, 0, 3, (x, v) -> x.voice(0, v, 5), Edges.SCENES);
        for (Edges.Scene s : Edges.SCENES) {
            Edges.outside("32 singer", BEYOND, 0, s.singers - 1, (x, v) -> x.voice(v, 0, 5), s);
            Edges.refused("32 both", s, BEYOND, x -> x.voice(s.singers, 4, 5));
        }
    }

    /** Terms 3: "the BODY of its KIND, or of the next KIND above that has one": each KIND, each VOICE, THE TRACE. */
    private static void voiceOfEachKind() {
        int[][] answers = {{5, 10, 2, 8}, {6, 14, 2, 12}, {21, 42, 2, 40}, {8, 16, -2, -18}, {30, 60, 2, 62},
            {10, 20, -2, -29}, {11, 30, 2, 2}};
        int[][][] traces = {
            {{10}, {11, 10}, {12}, {13, 11, 10, 12}},
            {{10}, {20, 11, 10, 12}, {12}, {13, 20, 11, 10, 12, 12}},
            {{30, 10}, {11, 30, 10}, {12}, {13, 11, 30, 10, 12}},
            {{10}, {11, 10}, {40, 12}, {13, 11, 10, 40, 12}},
            {{50, 30, 10}, {11, 50, 30, 10}, {12}, {13, 11, 50, 30, 10, 12}},
            {{10}, {11, 10}, {40, 12}, {60, 13, 11, 10, 40, 12, 10}},
            {{10}, {70, 20, 11, 10, 12}, {12}, {71, 70, 20, 11, 10, 12, 13, 70, 20, 11, 10, 12, 12}}};
        RingChoir x = Edges.choir(7, 3, 103, 203, 303, 403, 503, 603);
        for (int kind = 0; kind < 7; kind++) {
            for (int act = 0; act < 4; act++) {
                String what = "KIND " + kind + ", act " + act;
                int[] trace = traces[kind][act];
                due("32 " + what, x.voice(kind, act, 5), answers[kind][act]);
                due("41 " + what, x.count(6), trace.length);
                for (int i = 0; i < trace.length; i++) {
                    due("33 " + what + ", " + i, x.trace(i), trace[i]);
                }
                due("33 " + what + ", behind the last", x.trace(trace.length), NONE);
            }
        }
    }

    /** Terms 3: "with a number x (ints that go round)". */
    private static void voiceGoesRound() {
        RingChoir x = Edges.choir(7, 99, 199, 299, 399, 499, 599, 699, 99);
        due("32 the largest and n", x.voice(7, 0, MOST), LEAST + 6);
        due("32 the largest and 0", x.voice(0, 0, MOST), MOST);
        due("32 the smallest less m", x.voice(0, 2, LEAST), MOST - 98);
        due("32 twice the largest", x.voice(0, 1, MOST), -2);
        due("32 twice the smallest", x.voice(0, 1, LEAST), 0);
        due("32 SHIFTED sings, the smallest", x.voice(1, 1, LEAST), 2 + 98);
        due("32 SUMMED, three times the largest and 2", x.voice(2, 0, MOST), 3 * (MOST + 2));
        due("32 GATED rests, the smallest", x.voice(3, 2, LEAST + 99), LEAST);
        due("32 RAISED, one more than the largest", x.voice(4, 0, MOST), 3 * (LEAST + 4));
        due("32 GREATER tells", x.voice(5, 3, MOST), (2 * (MOST + 5) ^ -(MOST - 99)) - 7);
        int sings = 2 * (LEAST + 6) - (1 - 99) ^ 6;
        due("32 TELLING tells, the smallest", x.voice(6, 3, LEAST), sings - (sings ^ LEAST - 99));
        due("32 an answer like an ERROR's", x.voice(0, 0, BEYOND), BEYOND);
        for (int k = 1; k <= 5; k++) {
            due("32 isn't counted", x.told(k), 0);
        }
    }

    /** Promise 33: "NONE: there is none such": at first, behind the last, below 0. */
    private static void traceNone() {
        for (int i : new int[] {0, 1, -1, 39, 40, LEAST, MOST}) {
            Edges.refused("33 at first", Edges.EMPTY, NONE, x -> x.trace(i));
        }
        for (int i : new int[] {13, 14, -1, 39, 40, 41, 256, 65536, LEAST, MOST}) {
            Edges.refused("33 of 13", Edges.SOME, NONE, x -> x.trace(i));
            Edges.refused("33 of 13", Edges.CROWD, NONE, x -> x.trace(i));
        }
        int[] most = {71, 70, 20, 11, 10, 12, 13, 70, 20, 11, 10, 12, 12};
        for (int i = 0; i < 13; i++) {
            int at = i;
            Edges.asked("33 of 13", Edges.SOME, most[i], x -> x.trace(at));
        }
        RingChoir one = Edges.choir(7, 0);
        one.voice(0, 0, 0);
        due("33 of one: it", one.trace(0), 10);
        due("33 of one: behind it", one.trace(1), NONE);
    }

    /** Terms 3: "THE TRACE: the numbers of BODIES of the latest voice()": a shorter one behind a longer one. */
    private static void traceOfTheLatest() {
        RingChoir x = Edges.SOME.make();
        due("41 of 13", x.count(6), 13);
        x.voice(1, 0, 0);
        due("41 of 2", x.count(6), 2);
        due("33 first", x.trace(0), 30);
        due("33 last", x.trace(1), 10);
        due("33 those of the one ahead are gone", x.trace(2), NONE);
        x.voice(1, 4, 0);
        due("33 a refused one leaves it", x.trace(1), 10);
        x.image();
        x.voice(0, 0, 0);
        x.restore();
        due("37 an image doesn't have it", x.count(6), 1);
    }

    // ---- promise 34

    /** Promise 34: "BEYOND": the SHEET, bits, n above 40. */
    private static void sheetBeyond() {
        for (int bits = 0; bits <= 32; bits = bits == 0 ? 8 : 2 * bits) {
            int of = bits;
            Edges.outside("34 sheet, bits " + bits, BEYOND, 0, 3, (x, v) -> x.sheet(v, of, 1), Edges.SCENES);
            if (bits > 0) {
                for (int n : new int[] {41, 42, 100, 256, 65536, MOST - 1, MOST}) {
                    Edges.refused("34 n " + n, Edges.EMPTY, BEYOND, x -> x.sheet(0, of, n));
                    Edges.refused("34 n " + n, Edges.SOME, BEYOND, x -> x.sheet(3, of, n));
                    Edges.refused("34 n " + n, Edges.CROWD, BEYOND, x -> x.sheet(2, of, n));
                }
            }
        }
        for (int bits : NO_BITS) {
            for (Edges.Scene s : Edges.SCENES) {
                Edges.refused("34 bits " + bits, s, BEYOND, x -> x.sheet(0, bits, 1));
                Edges.refused("34 bits " + bits + ", n 41", s, BEYOND, x -> x.sheet(0, bits, 41));
            }
        }
    }

    /** Promise 34: "STATE: n is below 0 (ahead of BEYOND of n)", behind BEYOND of the SHEET and of bits. */
    private static void sheetState() {
        for (int n : new int[] {-1, -2, -40, -41, LEAST, LEAST + 1}) {
            for (Edges.Scene s : Edges.SCENES) {
                for (int bits = 8; bits <= 32; bits *= 2) {
                    int of = bits;
                    Edges.refused("34 n " + n, s, STATE, x -> x.sheet(0, of, n));
                    Edges.refused("34 n " + n, s, STATE, x -> x.sheet(3, of, n));
                }
                Edges.refused("34 the SHEET ahead of n " + n, s, BEYOND, x -> x.sheet(4, 8, n));
                Edges.refused("34 the SHEET ahead of n " + n, s, BEYOND, x -> x.sheet(-1, 8, n));
                Edges.refused("34 bits ahead of n " + n, s, BEYOND, x -> x.sheet(0, 9, n));
                Edges.refused("34 bits ahead of n " + n, s, BEYOND, x -> x.sheet(0, -8, n));
            }
        }
    }

    /** Promise 34: "A SHEET has n numbers, all 0": 0, 1, 39, 40; also one that was there. */
    private static void sheetTaken() {
        for (int sheet = 0; sheet < 4; sheet++) {
            for (int bits = 8; bits <= 32; bits *= 2) {
                for (int n : new int[] {0, 1, 39, 40}) {
                    RingChoir x = Edges.CROWD.make();
                    due("34 " + n, x.sheet(sheet, bits, n), 1);
                    due("34 behind the last", x.put(sheet, n, 0), BEYOND);
                    due("34 all of them", x.move(sheet, 0, sheet, 0, n), n);
                    allAreZero(x, sheet, n);
                }
            }
        }
    }

    /** Five at a time, by singers who all sing 11 first. */
    private static void allAreZero(RingChoir x, int sheet, int n) {
        for (int from = 0; from < n; from += 8) {
            int size = Math.min(8, n - from);
            x.move(sheet, from, sheet, 0, size);
            Edges.sung(x, 11, 11, 11, 11, 11, 11, 11, 11);
            due("34 they come", x.begin(sheet), Math.min(8, n));
            for (int i = 0; i < size; i++) {
                due("34 all 0", x.ofSinger(i, 2), 0);
            }
        }
    }

    /** Promise 34: "0: it is missing, n doesn't matter". */
    private static void sheetMissing() {
        for (int n : new int[] {0, 1, -1, 40, 41, LEAST, MOST}) {
            for (int sheet = 0; sheet < 4; sheet++) {
                int of = sheet;
                RingChoir x = Edges.CROWD.make();
                due("34 missing", x.sheet(sheet, 0, n), 1);
                due("34 missing then", x.begin(sheet), NONE);
                due("34 missing then", x.put(sheet, 0, 0), NONE);
                due("34 missing already", x.sheet(sheet, 0, n), 1);
                Edges.asked("34 missing at first", Edges.EMPTY, 1, y -> y.sheet(of, 0, n));
                due("34 back again", x.sheet(sheet, 16, 40), 1);
                due("34 back again", x.put(sheet, 39, 1), 1);
            }
        }
    }

    // ---- promises 35 and 36

    /** Promise 35: "BEYOND: no such SHEET. NONE: it is missing. BEYOND: no such number", in that order. */
    private static void putRefused() {
        Edges.outside("35 sheet", BEYOND, 0, 3, (x, v) -> x.put(v, 0, 1), Edges.SCENES);
        Edges.outside("35 sheet, no such number", BEYOND, 0, 3, (x, v) -> x.put(v, -1, 1), Edges.SCENES);
        for (int i : new int[] {0, -1, 40, LEAST, MOST}) {
            Edges.refused("35 missing, number " + i, Edges.EMPTY, NONE, x -> x.put(3, i, 1));
            Edges.refused("35 missing, number " + i, Edges.SOME, NONE, x -> x.put(2, i, 1));
        }
        Edges.outside("35 number of 10", BEYOND, 0, 9, (x, v) -> x.put(0, v, 1), Edges.SOME);
        Edges.outside("35 number of 4", BEYOND, 0, 3, (x, v) -> x.put(1, v, 1), Edges.SOME);
        Edges.outside("35 number of 0", BEYOND, 0, -1, (x, v) -> x.put(3, v, 1), Edges.SOME);
        for (int sheet = 0; sheet < 4; sheet++) {
            int of = sheet;
            Edges.outside("35 number of 40", BEYOND, 0, 39, (x, v) -> x.put(of, v, 1), Edges.CROWD);
        }
    }

    /** Promise 35: "Number i of a SHEET becomes v: 1": the first, the last of 40. */
    private static void putTaken() {
        for (int sheet = 0; sheet < 4; sheet++) {
            RingChoir x = Edges.CROWD.make();
            due("35 the first", x.put(sheet, 0, 0), 1);
            due("35 the last", x.put(sheet, 39, 5), 1);
            x.move(sheet, 39, sheet, 1, 1);
            due("35 they come", x.begin(sheet), 8);
            due("35 the first", x.ofSinger(0, 2), 0);
            due("35 the last", x.ofSinger(1, 2), 5);
        }
    }

    /** Promise 35: "v (its lowest bits)"; Terms 4: "rows of 8, 16, 32 bits". */
    private static void putLowestBits() {
        int[] told = {11, 12, 127, 128, 255, 256, 256 + 11, 32767, 32768, 65535, 65536, 65536 + 11, -1, -256, -65536, -65525,
            LEAST, LEAST + 11, MOST};
        for (int bits = 8; bits <= 32; bits *= 2) {
            for (int v : told) {
                long low = bits == 32 ? v : v & (1L << bits) - 1;
                boolean note = low >= 0 && low < 12;
                RingChoir x = Edges.choir(12, 0);
                x.sheet(0, bits, 1);
                due("35 any number", x.put(0, 0, v), 1);
                due("35 " + v + " of " + bits + " bits", x.begin(0), note ? 1 : 0);
                due("35 " + v + " of " + bits + " bits", x.ofSinger(0, 2), note ? low : 0);
            }
        }
    }

    /** Promise 36: "BEYOND: no such SHEET", ahead of all else. */
    private static void moveSheets() {
        Edges.outside("36 sheet", BEYOND, 0, 3, (x, v) -> x.move(v, 0, 0, 0, 1), Edges.SCENES);
        Edges.outside("36 other", BEYOND, 0, 3, (x, v) -> x.move(0, 0, v, 0, 1), Edges.SCENES);
        Edges.outside("36 both", BEYOND, 0, 3, (x, v) -> x.move(v, 0, v, 0, 1), Edges.SCENES);
        Edges.outside("36 sheet, the other missing", BEYOND, 0, 3, (x, v) -> x.move(v, 0, 2, 0, 1), Edges.SOME);
        Edges.outside("36 other, the first missing", BEYOND, 0, 3, (x, v) -> x.move(2, 0, v, 0, 1), Edges.SOME);
    }

    /** Promise 36: "NONE: one is missing", ahead of "KIND" and of n, i, j. */
    private static void moveNone() {
        for (int n : new int[] {0, 1, -1, 41, LEAST, MOST}) {
            Edges.refused("36 both missing", Edges.EMPTY, NONE, x -> x.move(0, 0, 1, 0, n));
            Edges.refused("36 one that is missing onto itself", Edges.EMPTY, NONE, x -> x.move(3, n, 3, n, 0));
            Edges.refused("36 the first missing", Edges.SOME, NONE, x -> x.move(2, 0, 0, 0, n));
            Edges.refused("36 the other missing", Edges.SOME, NONE, x -> x.move(0, 0, 2, 0, n));
            Edges.refused("36 the other missing, i", Edges.SOME, NONE, x -> x.move(0, n, 2, 0, 1));
            Edges.refused("36 the first missing, j", Edges.SOME, NONE, x -> x.move(2, 0, 0, n, 1));
        }
    }

    /** Promise 36: "KIND: they are of unlike bits", ahead of n, i, j; also with no numbers. */
    private static void moveKind() {
        int[][] unlike = {{0, 1}, {1, 0}, {0, 2}, {2, 0}, {1, 2}, {2, 1}, {3, 1}, {2, 3}};
        for (int[] pair : unlike) {
            for (int n : new int[] {0, 1, 40, 41, -1, LEAST, MOST}) {
                Edges.refused("36 n " + n, Edges.CROWD, KIND, x -> x.move(pair[0], 0, pair[1], 0, n));
                Edges.refused("36 i " + n, Edges.CROWD, KIND, x -> x.move(pair[0], n, pair[1], 0, 1));
                Edges.refused("36 j " + n, Edges.CROWD, KIND, x -> x.move(pair[0], 0, pair[1], n, 1));
            }
        }
        Edges.refused("36 of no numbers", Edges.SOME, KIND, x -> x.move(3, 0, 0, 0, 0));
        Edges.refused("36 to no numbers", Edges.SOME, KIND, x -> x.move(0, 0, 3, 0, 0));
    }

    /** Promise 36: "BEYOND: n, i, or j is below 0, or they don't stand there". */
    private static void moveBeyond() {
        Edges.Scene s = Edges.CROWD;
        Edges.outside("36 n of 40", BEYOND, 0, 40, (x, v) -> x.move(0, 0, 3, 0, v), s);
        Edges.outside("36 i of 40", BEYOND, 0, 39, (x, v) -> x.move(0, v, 3, 0, 1), s);
        Edges.outside("36 j of 40", BEYOND, 0, 39, (x, v) -> x.move(0, 0, 3, v, 1), s);
        Edges.outside("36 n of 40, onto itself", BEYOND, 0, 40, (x, v) -> x.move(1, 0, 1, 0, v), s);
        for (int at = 1; at <= 40; at++) {
            int from = at;
            Edges.refused("36 one too many from i " + at, s, BEYOND, x -> x.move(0, from, 3, 0, 41 - from));
            Edges.refused("36 one too many from j " + at, s, BEYOND, x -> x.move(0, 0, 3, from, 41 - from));
        }
        int[][] sums = {{1, 0, MOST}, {0, 1, MOST}, {MOST, 0, 1}, {0, MOST, 1}, {MOST, MOST, MOST}, {MOST, 0, MOST},
            {-1, 0, 0}, {0, -1, 0}, {0, 0, -1}, {-1, -1, -1}, {40, 0, -1}, {0, 40, -1}, {LEAST, 0, LEAST}, {-1, 0, 1},
            {0, -1, 1}, {LEAST, LEAST, 0}, {1, 0, LEAST}, {MOST, MOST, 2}};
        for (int[] c : sums) {
            Edges.refused("36 sums that would wrap", s, BEYOND, x -> x.move(2, c[0], 2, c[1], c[2]));
        }
        Edges.refused("36 of 4", Edges.SOME, BEYOND, x -> x.move(1, 0, 1, 0, 5));
        Edges.refused("36 of 0", Edges.SOME, BEYOND, x -> x.move(3, 0, 3, 0, 1));
    }

    /** Promise 36: n is 0: they stand wherever a SHEET ends, not behind that. */
    private static void moveOfNothing() {
        for (Edges.Scene s : new Edges.Scene[] {Edges.CROWD}) {
            Edges.asked("36 none, at 0", s, 0, x -> x.move(0, 0, 3, 0, 0));
            Edges.asked("36 none, at the ends", s, 0, x -> x.move(0, 40, 3, 40, 0));
            Edges.refused("36 none, i behind the end", s, BEYOND, x -> x.move(0, 41, 3, 0, 0));
            Edges.refused("36 none, j behind the end", s, BEYOND, x -> x.move(0, 0, 3, 41, 0));
            Edges.refused("36 none, the largest i", s, BEYOND, x -> x.move(0, MOST, 3, 0, 0));
        }
        Edges.asked("36 none of none", Edges.SOME, 0, x -> x.move(3, 0, 3, 0, 0));
        Edges.refused("36 none of none, i 1", Edges.SOME, BEYOND, x -> x.move(3, 1, 3, 0, 0));
    }

    /** Promise 36: "n numbers of a SHEET, from number i on, come to another one, from its number j on": one, all. */
    private static void moveTaken() {
        RingChoir x = Edges.choir(12, 0, 0, 0, 0);
        Edges.laid(x, 0, 32, 1, 2, 3, 4);
        Edges.laid(x, 1, 32, 5, 6, 7, 8);
        due("36 the last to the first", x.move(0, 3, 1, 0, 1), 1);
        due("36 came", sheetOf(x, 1), 4 + 12 * (6 + 12 * (7 + 12 * 8)));
        due("36 the first to the last", x.move(0, 0, 1, 3, 1), 1);
        due("36 came", sheetOf(x, 1), 4 + 12 * (6 + 12 * (7 + 12)));
        due("36 all", x.move(0, 0, 1, 0, 4), 4);
        due("36 came", sheetOf(x, 1), 1 + 12 * (2 + 12 * (3 + 12 * 4)));
        due("36 stay", sheetOf(x, 0), 1 + 12 * (2 + 12 * (3 + 12 * 4)));
        x.put(0, 0, 9);
        due("36 two rows, not one", sheetOf(x, 1), 1 + 12 * (2 + 12 * (3 + 12 * 4)));
        due("36 40", Edges.CROWD.make().move(0, 0, 3, 0, 40), 40);
    }

    private static long sheetOf(RingChoir x, int sheet) {
        Edges.sung(x, 0, 0, 0, 0);
        x.begin(sheet);
        return x.state();
    }

    /** Promise 36: "(or the same) .. as they all were": up, down, onto the same place, all lengths. */
    private static void moveOntoItself() {
        for (int i = 0; i < 8; i++) {
            for (int j = 0; j < 8; j++) {
                int n = 8 - Math.max(i, j);
                RingChoir x = Edges.choir(12, 0, 0, 0, 0, 0, 0, 0, 0);
                Edges.laid(x, 2, 8, 1, 2, 3, 4, 5, 6, 7, 8);
                due("36 from " + i + " to " + j, x.move(2, i, 2, j, n), n);
                due("36 all come", x.begin(2), 8);
                for (int k = 0; k < 8; k++) {
                    boolean moved = k >= j && k < j + n;
                    due("36 from " + i + " to " + j + ": " + k, x.ofSinger(k, 2), 1 + (moved ? k - j + i : k));
                }
            }
        }
    }

    // ---- promises 37 and 38

    /** Promise 37: "in place of one ahead: how often that was done". */
    private static void image() {
        RingChoir x = new RingChoir();
        for (int i = 1; i <= 100; i++) {
            due("37 how often", x.image(), i);
            x.restore();
        }
        due("37 full", Edges.CROWD.make().image(), 2);
        x.bars(1);
        x.image();
        x.bars(1);
        due("37 in place of one ahead", x.restore(), 1);
    }

    /** Promise 37: "All (but SHEETS, THE TRACE, what told() tells, and how often this was done)". */
    private static void imageKeeps() {
        RingChoir x = Edges.SOME.make();
        java.util.List<String> before = Edges.seen(Edges.SOME.make());
        x.image();
        x.text(0);
        Edges.read(x, 1, "7");
        x.check(0);
        for (int i = 0; i < 20; i++) {
            x.tell(77);
        }
        x.notes(9);
        x.rule(0, 0, 0);
        x.net(0, 0, 0);
        x.ring(1);
        x.sing(1, 0, 8);
        x.sing(1, 1, 8);
        x.sing(3, 1, 8);
        for (int i = 0; i < 4; i++) {
            x.singer(6, 50);
        }
        x.loose(500, 100);
        x.seed(0);
        due("38 BAR", x.restore(), 3);
        x.image();
        java.util.List<String> after = Edges.seen(x);
        for (int i = 0; i < after.size(); i++) {
            if (after.get(i).startsWith("now ")) {
                Edges.same("38 all", after.subList(i, i + 1), before.subList(i, i + 1));
            }
        }
        RingChoir y = Edges.SOME.make();
        y.image();
        y.sheet(0, 0, 0);
        y.put(1, 0, 4);
        y.voice(0, 0, 0);
        y.told(0);
        int beyond = y.told(1);
        y.restore();
        due("37 a SHEET is still missing", y.begin(0), NONE);
        due("37 a number stays", y.begin(1), 3);
        due("37 a number stays", y.ofSinger(0, 2), 4);
        due("37 THE TRACE stays", y.count(6), 1);
        due("37 what told() tells stays", y.told(1), beyond);
        due("37 how often stays", y.image(), 3);
    }

    /** Promise 38: "NONE: there is none". */
    private static void restoreNone() {
        Edges.refused("38 at first", Edges.EMPTY, NONE, RingChoir::restore);
        Edges.Scene s = new Edges.Scene("no image", 7, 1, () -> Edges.sung(Edges.choir(7, 103), 5));
        Edges.refused("38 never one", s, NONE, RingChoir::restore);
        RingChoir x = new RingChoir();
        x.restore();
        due("37 a refused one doesn't count", x.image(), 1);
        due("38 of an empty one", x.restore(), 0);
    }

    /** Promise 38: "All is as the IMAGE has it, which stays: BAR": of an empty object, and again and again. */
    private static void restoreStays() {
        RingChoir x = new RingChoir();
        x.image();
        for (int round = 0; round < 3; round++) {
            for (int i = 0; i < 8; i++) {
                due("38 singers anew", x.singer(6, 99), i);
                x.sing(i, 0, 6);
                x.sing(i, 1, 6);
            }
            Edges.read(x, 0, "l");
            Edges.read(x, 1, "5");
            Edges.fed(x, "l+l+l+l+l+l+l+l+l+l+l+l+l+l+l+l+l+l+l+l+l+l+l+l+l+");
            x.bars(500);
            for (int i = 0; i < 20; i++) {
                x.tell(i);
            }
            x.seed(9);
            due("38 BAR", x.restore(), 0);
            int[] counts = {0, 7, 0, 0, 0, 0, 0, 1};
            for (int what = 0; what < 8; what++) {
                due("38 count " + what, x.count(what), counts[what]);
            }
            due("38 no ADDS", x.law(0, 3, 3, 3, 3), 0);
            due("38 no WORTH", x.law(1, 3, 3, 3, 3), 3);
            due("38 no SINGERS", x.ofSinger(0, 0), BEYOND);
            due("3 silent at first", x.singer(0, 0) == 0 ? x.ofSinger(0, 2) : -1, 0);
            due("3 no WISH at first", x.ofSinger(0, 6), -1);
            x.bars(1);
            due("3 the second is silent at first, too", x.singer(0, 0) == 1 ? x.ofSinger(1, 2) : -1, 0);
            x.restore();
        }
    }

    // ---- promises 39 to 42

    /** Promise 39: "One more number waits: how many. FULL: 20 wait". */
    private static void tell() {
        RingChoir x = new RingChoir();
        int[] any = {0, -1, LEAST, MOST, BEYOND};
        for (int i = 0; i < 20; i++) {
            due("39 how many", x.tell(any[i % 5]), i + 1);
        }
        due("39 20 wait", x.tell(0), FULL);
        for (int v : any) {
            Edges.refused("39 20 wait", Edges.CROWD, FULL, y -> y.tell(v));
        }
        due("40 they go", x.check(0), BEYOND);
        due("39 again", x.tell(0), 1);
    }

    /** Promise 40: "BEYOND (none wait then, too)": all else stays. */
    private static void checkBeyond() {
        for (Edges.Scene s : new Edges.Scene[] {Edges.SOME, Edges.CROWD}) {
            Edges.Scene checked = new Edges.Scene(s.name + ", none wait", s.n, s.singers, () -> {
                RingChoir x = s.make();
                x.check(0);
                return x;
            });
            Edges.outside("40 singer", BEYOND, 0, s.singers - 1, RingChoir::check, checked);
            for (int v : new int[] {-1, s.singers, s.singers + 1, LEAST, MOST}) {
                RingChoir x = s.make();
                due("40 singer " + v, x.check(v), BEYOND);
                due("40 none wait", x.count(5), 0);
                Edges.same("40 all else", Edges.seen(x), Edges.seen(checked.make()));
            }
        }
        Edges.outside("40 no SINGERS", BEYOND, 0, -1, RingChoir::check, Edges.EMPTY);
        RingChoir none = new RingChoir();
        none.tell(0);
        due("40 no SINGERS", none.check(0), BEYOND);
        due("40 none wait", none.count(5), 0);
    }

    /** Promise 40: "0; else 1 and the place (from 0) of the first that isn't so". */
    private static void checkPlaces() {
        RingChoir x = Edges.sung(Edges.choir(12, 101), 0);
        due("40 none wait", x.check(0), 0);
        for (int at = 0; at < 20; at++) {
            for (int i = 0; i < 20; i++) {
                x.tell(i == at ? 12 : (i + 1) % 12);
            }
            due("40 at " + at, x.check(0), 1 + at);
            due("40 none wait", x.count(5), 0);
        }
        for (int v : new int[] {-1, 0, 2, 12, 13, LEAST, MOST}) {
            x.tell(v);
            due("40 " + v + " isn't 1", x.check(0), 1);
        }
        x.tell(2);
        x.tell(3);
        due("40 of several the first", x.check(0), 1);
    }

    /** Promise 40: "NOTES of a SINGER in BARS 1, 2, .. AHEAD": all 20, of each SINGER; nothing goes by. */
    private static void checkOfTwenty() {
        RingChoir x = Edges.CROWD.make();
        long state = x.state();
        due("40 all 20", x.check(0), 0);
        for (int i = 0; i < 8; i++) {
            Edges.tellTrue(x, i, 20);
            due("40 all 20 of " + i, x.check(i), 0);
            due("40 none wait", x.count(5), 0);
        }
        due("40 nothing goes by", x.state(), state);
        due("40 nothing goes by", x.count(0), 500);
        RingChoir now = Edges.sung(Edges.choir(7, 101), 3);
        now.tell(3);
        due("40 the NOTE now isn't the first", now.check(0), 1);
        now.tell(4);
        due("40 that in BAR 1 is", now.check(0), 0);
    }

    /** Promise 41: "BEYOND": what 0 to 7. */
    private static void countBeyond() {
        Edges.outside("41 what", BEYOND, 0, 7, RingChoir::count, Edges.SCENES);
    }

    /** Promise 41: each at its least and at its most. */
    private static void counts() {
        int[] least = {0, 7, 0, 0, 0, 0, 0, 1};
        int[] some = {3, 5, 4, 2, 5, 3, 13, -77};
        int[] most = {500, 12, 8, 8, 50, 20, 13, 1};
        for (int what = 0; what < 8; what++) {
            int of = what;
            Edges.asked("41 what " + what, Edges.EMPTY, least[what], x -> x.count(of));
            Edges.asked("41 what " + what, Edges.SOME, some[what], x -> x.count(of));
            Edges.asked("41 what " + what, Edges.CROWD, most[what], x -> x.count(of));
        }
        RingChoir x = new RingChoir();
        for (int z : new int[] {LEAST, MOST, KIND}) {
            x.seed(z);
            due("41 z, any number", x.count(7), z);
        }
        due("41 isn't counted", x.told(5), 0);
    }

    /** Promise 42: "(k 1 .. 5); BEYOND: another k (counted, too)". */
    private static void toldBeyond() {
        Edges.outside("42 k", BEYOND, 1, 5, RingChoir::told, Edges.SCENES);
        RingChoir x = new RingChoir();
        due("42 k 0", x.told(0), BEYOND);
        due("42 counted, too", x.told(1), 1);
        due("42 k 6", x.told(6), BEYOND);
        due("42 counted, too", x.told(1), 2);
        due("42 what is taken isn't", x.told(1), 2);
    }

    /** Promise 42: "How many acts have answered an ERROR LOW - k": one of each, then each alone. */
    private static void toldCounts() {
        int[] some = {1, 1, 1, 1, 1};
        for (int k = 1; k <= 5; k++) {
            int of = k;
            Edges.asked("42 none", Edges.EMPTY, 0, x -> x.told(of));
            Edges.asked("42 one", Edges.SOME, some[k - 1], x -> x.told(of));
        }
        RingChoir x = Edges.CROWD.make();
        for (int i = 1; i <= 30; i++) {
            x.bars(0);
            x.trace(-1);
            x.never();
            x.tell(0);
            x.as(0, 1);
            for (int k = 1; k <= 5; k++) {
                due("42 told " + k, x.told(k), i);
            }
        }
    }
}
