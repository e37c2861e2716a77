/**
 * The edges of Terms 1 and of promises 1 to 10: each test's remark has the sentence that it holds. Refused calls
 * are held against a twin (Edges.refused): the ERROR, one more in told(), and nothing else is another.
 */
public final class SingerEdgesTest {
    private static final int BEYOND = Edges.BEYOND;
    private static final int NONE = Edges.NONE;
    private static final int STATE = Edges.STATE;
    private static final int FULL = Edges.FULL;
    private static final int KIND = Edges.KIND;
    private static final int LEAST = Edges.LEAST;
    private static final int MOST = Edges.MOST;

    public static void main(String[] args) {
        notesBelowN();
        countedRound();
        sumsWithoutLoss();
        atMostEight();
        leftAndSecond();
        itselfOrOneTwice();
        nextNotes();
        allByTheNotesThatWere();
        stateAsANumber();
        newObject();
        newObjectHasNoSingers();
        notesTaken();
        notesBeyond();
        notesState();
        singerTaken();
        singerBeyond();
        singerFull();
        singerMovesTheRing();
        ofSinger();
        rule();
        asBeyond();
        asKind();
        net();
        ring();
        singTaken();
        singBeyond();
        beginSheets();
        beginUpToNoNote();
        beginUpToNoSinger();
        Edges.end("singers, rules");
    }

    private static void due(String what, long got, long want) {
        Edges.due(what, got, want);
    }

    // ---- Terms 1

    /** Terms 1: "NOTES are 0 (silence) to N less 1 (N 2 to 12; 7 at first)". */
    private static void notesBelowN() {
        RingChoir first = new RingChoir();
        first.singer(0, 0);
        due("N at first: 6", first.sing(0, 0, 6), 0);
        due("N at first: 7", first.sing(0, 0, 7), BEYOND);
        for (int n = 2; n <= 12; n++) {
            RingChoir x = Edges.choir(n, 0);
            due("N " + n, x.count(1), n);
            due("N less 1 of " + n, x.sing(0, 0, n - 1), 0);
            due("silence", x.sing(0, 0, 0), n - 1);
            due("N of " + n, x.sing(0, 0, n), BEYOND);
            due("below silence", x.sing(0, 0, -1), BEYOND);
            due("none of these came", x.ofSinger(0, 2), 0);
        }
    }

    /** Terms 1: "brought to one of them by adding or taking off N as often as needed". */
    private static void countedRound() {
        for (int n = 2; n <= 12; n++) {
            RingChoir x = Edges.choir(n, 100);
            x.sing(0, 0, n - 1);
            due("N less 1 stays", x.ofSinger(0, 5), n - 1);
            x.rule(0, 1, 1);
            due("N is 0", x.ofSinger(0, 5), 0);
            x.rule(0, 1, 99);
            due("N taken off often", x.ofSinger(0, 5), (n - 1 + 99) % n);
            x.rule(0, 6, 0);
            x.sing(0, 0, 0);
            Edges.read(x, 0, "0-1");
            due("-1 is N less 1", x.ofSinger(0, 5), n - 1);
            Edges.read(x, 0, "0-" + n);
            due("-N is 0", x.ofSinger(0, 5), 0);
            Edges.read(x, 0, "0-" + (n + 1));
            due("-N less 1 is N less 1", x.ofSinger(0, 5), n - 1);
            Edges.read(x, 0, "" + n);
            due("N is 0", x.ofSinger(0, 5), 0);
            Edges.read(x, 0, "2048*1024*1024");
            due("the smallest int", x.ofSinger(0, 5), Math.floorMod((long) LEAST, (long) n));
            Edges.read(x, 0, "2048*1024*1024-1");
            due("the largest int", x.ofSinger(0, 5), MOST % n);
        }
    }

    /** Terms 1: "at last COUNTED ROUND (sums without loss)". */
    private static void sumsWithoutLoss() {
        for (int n = 2; n <= 12; n++) {
            RingChoir x = Edges.choir(n, 699);
            x.sing(0, 0, n - 1);
            Edges.read(x, 0, "2048*1024*1024-1");
            due("l, m and the largest int", x.ofSinger(0, 5), (n - 1 + 99L + MOST) % n);
            Edges.read(x, 0, "2048*1024*1024");
            due("l, m and the smallest int", x.ofSinger(0, 5), Math.floorMod(n - 1 + 99L + LEAST, (long) n));
        }
        RingChoir y = Edges.choir(7, 499, 0);
        y.net(0, 1, 1);
        Edges.laid(y, 0, 32, 99 % 7, MOST, (int) ((2L * MOST + 99) % 7), 0);
        due("told bars: l, s and m above the largest int", y.made(0, 0), 499);
        Edges.laid(y, 0, 32, 99 % 7, LEAST, (int) Math.floorMod(2L * LEAST + 99, 7L), 0);
        due("told bars: l, s and m below the smallest int", y.made(0, 0), 499);
    }

    /** Terms 1: "SINGERS 0, 1, .. (at most 8), each with a RULE, a NOTE (0 at first)"; "-1: none, at first". */
    private static void atMostEight() {
        RingChoir x = new RingChoir();
        for (int i = 0; i < 8; i++) {
            due("number", x.singer(0, 0), i);
            due("0 at first", x.ofSinger(i, 2), 0);
            due("no WISH at first", x.ofSinger(i, 6), -1);
            due("how many", x.count(2), i + 1);
        }
        due("the ninth", x.singer(0, 0), FULL);
        due("still 8", x.count(2), 8);
        due("no ninth", x.ofSinger(8, 0), BEYOND);
    }

    /** Terms 1: "LEFT (the one with the number 1 less; for 0 the last one) and SECOND (2 less, likewise around)". */
    private static void leftAndSecond() {
        int[][] lefts = {{}, {0}, {1, 0}, {2, 0, 1}, {3, 0, 1, 2}, {4, 0, 1, 2, 3}, {5, 0, 1, 2, 3, 4},
            {6, 0, 1, 2, 3, 4, 5}, {7, 0, 1, 2, 3, 4, 5, 6}};
        int[][] seconds = {{}, {0}, {0, 1}, {1, 2, 0}, {2, 3, 0, 1}, {3, 4, 0, 1, 2}, {4, 5, 0, 1, 2, 3},
            {5, 6, 0, 1, 2, 3, 4}, {6, 7, 0, 1, 2, 3, 4, 5}};
        RingChoir x = new RingChoir();
        for (int size = 1; size <= 8; size++) {
            x.singer(0, 0);
            for (int i = 0; i < size; i++) {
                due("LEFT of " + i + " of " + size, x.ofSinger(i, 3), lefts[size][i]);
                due("SECOND of " + i + " of " + size, x.ofSinger(i, 4), seconds[size][i]);
                due("not told otherwise", x.ofSinger(i, 7), 0);
            }
        }
    }

    /** Terms 1: "two whom it HEARS (SINGERS; also itself, also one twice)". */
    private static void itselfOrOneTwice() {
        RingChoir x = Edges.sung(Edges.choir(12, 200, 200), 3, 4);
        due("itself twice", x.net(0, 0, 0), 1);
        due("3 + 3", x.ofSinger(0, 5), 6);
        due("the other twice", x.net(0, 1, 1), 1);
        due("4 + 4", x.ofSinger(0, 5), 8);
        RingChoir alone = Edges.sung(Edges.choir(12, 200), 5);
        due("alone it hears itself twice", alone.ofSinger(0, 5), 10);
    }

    /** Terms 1: NEXT NOTE of each KIND, where l or s is 0, 1 or N less 1 (m is 1; no TEXT adds 0). */
    private static void nextNotes() {
        int[] notes = {0, 1, 11};
        int[][] of12 = {
            {0, 0, 0, 1, 1, 1, 11, 11, 11},
            {1, 1, 1, 2, 2, 2, 0, 0, 0},
            {0, 1, 11, 1, 2, 0, 11, 0, 10},
            {0, 0, 0, 1, 0, 0, 11, 0, 0},
            {1, 2, 0, 2, 3, 1, 0, 1, 11},
            {0, 1, 11, 1, 1, 11, 11, 1, 11},
            {1, 1, 1, 2, 2, 2, 0, 0, 0}};
        int[][] of2 = {{0, 0, 1, 1}, {1, 1, 0, 0}, {0, 1, 1, 0}, {0, 0, 1, 0}, {1, 0, 0, 1}, {0, 1, 1, 1}, {1, 1, 0, 0}};
        for (int kind = 0; kind < 7; kind++) {
            for (int i = 0; i < 9; i++) {
                due("12 notes, KIND " + kind + ", " + i, next(12, kind, notes[i / 3], notes[i % 3]), of12[kind][i]);
            }
            for (int i = 0; i < 4; i++) {
                due("2 notes, KIND " + kind + ", " + i, next(2, kind, i / 2, i % 2), of2[kind][i]);
            }
        }
    }

    private static int next(int n, int kind, int l, int s) {
        RingChoir x = Edges.choir(n, 0, 0, 100 * kind + 1);
        return Edges.sung(x, s, l).ofSinger(2, 5);
    }

    /** Terms 1: "A BAR: each has its NEXT NOTE, all by the NOTES that were; BAR is 1 more". */
    private static void allByTheNotesThatWere() {
        RingChoir x = Edges.sung(Edges.choir(12, 0, 0), 3, 11);
        due("BAR", x.bars(1), 1);
        due("0 has what 1 had", x.ofSinger(0, 2), 11);
        due("1 has what 0 had", x.ofSinger(1, 2), 3);
    }

    /** Terms 1: "the sum of NOTE times N to the power of the SINGER's number"; promise 18: "any number from 0 on". */
    private static void stateAsANumber() {
        due("18 no SINGERS", new RingChoir().state(), 0);
        for (int n = 2; n <= 12; n++) {
            RingChoir x = Edges.choir(n, 0, 0, 0, 0, 0, 0, 0, 0);
            due("18 silence", x.state(), 0);
            long power = 1;
            for (int i = 0; i < 8; i++) {
                x.sing(i, 0, 1);
                due("18 singer " + i + " of " + n, x.state(), power);
                x.sing(i, 0, n - 1);
                due("18 singer " + i + " of " + n, x.state(), power * (n - 1));
                x.sing(i, 0, 0);
                power *= n;
            }
            Edges.sung(x, n - 1, n - 1, n - 1, n - 1, n - 1, n - 1, n - 1, n - 1);
            due("18 the most of " + n, x.state(), power - 1);
        }
        Edges.asked("18 full", Edges.CROWD, Edges.CROWD.make().state(), RingChoir::state);
    }

    // ---- promises 1 and 2

    /** Promise 1: "All as at first; no SINGERS"; Terms 4: SHEETS are "missing (as at first)". */
    private static void newObject() {
        int[] counts = {0, 7, 0, 0, 0, 0, 0, 1};
        for (int what = 0; what < 8; what++) {
            due("1 count " + what, new RingChoir().count(what), counts[what]);
        }
        for (int k = 1; k <= 5; k++) {
            due("1 told " + k, new RingChoir().told(k), 0);
        }
        RingChoir x = new RingChoir();
        for (int s = 0; s < 4; s++) {
            due("1 sheet " + s, x.begin(s), NONE);
        }
        due("1 no trace", x.trace(0), NONE);
        due("1 no image", x.restore(), NONE);
        due("1 no ADDS", x.law(0, 1, 1, 1, 1), 0);
        due("1 no WORTH", x.law(1, 1, 0, 0, 0), 1);
        due("1 first image", x.image(), 1);
        due("1 first byte", x.feed(0, 1), 1);
        due("1 first number", x.tell(0), 1);
        due("1 first singer", x.singer(0, 0), 0);
    }

    /** Promise 1: "no SINGERS": every call that names one is BEYOND, with 0, too. */
    private static void newObjectHasNoSingers() {
        Edges.Scene e = Edges.EMPTY;
        for (int v : new int[] {0, 1, -1, 7, 8, LEAST, MOST}) {
            Edges.refused("4 singer " + v, e, BEYOND, x -> x.ofSinger(v, 0));
            Edges.refused("5 singer " + v, e, BEYOND, x -> x.rule(v, 0, 0));
            Edges.refused("6 singer " + v, e, BEYOND, x -> x.as(v, 0));
            Edges.refused("7 singer " + v, e, BEYOND, x -> x.net(v, v, v));
            Edges.refused("8 singer " + v, e, BEYOND, x -> x.ring(v));
            Edges.refused("9 singer " + v, e, BEYOND, x -> x.sing(v, 0, 0));
            Edges.refused("16 singer " + v, e, BEYOND, x -> x.far(0, v));
            Edges.refused("26 singer " + v, e, BEYOND, x -> x.made(0, v));
            Edges.refused("27 singer " + v, e, BEYOND, x -> x.heard(v, 1, 0));
            Edges.refused("28 singer " + v, e, BEYOND, x -> x.gone(v, 1));
            Edges.refused("32 singer " + v, e, BEYOND, x -> x.voice(v, 0, 0));
            Edges.refused("40 singer " + v, e, BEYOND, x -> x.check(v));
        }
    }

    /** Promise 2: "N becomes v: what it was". */
    private static void notesTaken() {
        RingChoir x = new RingChoir();
        due("2 the smallest", x.notes(2), 7);
        due("2 again", x.notes(2), 2);
        due("2 the largest", x.notes(12), 2);
        due("2 again", x.notes(12), 12);
        due("2 full, as it is", Edges.CROWD.make().notes(12), 12);
        due("2 some, the smallest above NOTES", Edges.SOME.make().notes(5), 5);
        RingChoir y = Edges.sung(Edges.choir(12, 101), 1);
        due("2 counted round by 12", y.ofSinger(0, 5), 2);
        due("2 the smallest", y.notes(2), 12);
        due("2 counted round by 2", y.ofSinger(0, 5), 0);
        due("2 the largest", y.notes(12), 2);
        due("2 counted round by 12 again", y.ofSinger(0, 5), 2);
    }

    /** Promise 2: "BEYOND" (N 2 to 12), ahead of "STATE". */
    private static void notesBeyond() {
        Edges.outside("2 N", BEYOND, 2, 12, RingChoir::notes, Edges.SCENES);
    }

    /** Promise 2: "STATE: a NOTE, or a WISH, is v or more". */
    private static void notesState() {
        for (int v = 2; v <= 11; v++) {
            int of = v;
            Edges.refused("2 NOTES and WISHES are 11", Edges.CROWD, STATE, x -> x.notes(of));
        }
        for (int who = 0; who < 8; who++) {
            for (int v = 2; v <= 11; v++) {
                due("2 a NOTE is v", noteOrWish(who, 0, v).notes(v), STATE);
                due("2 a NOTE is more", noteOrWish(who, 0, v + 1).notes(v), v == 11 ? 12 : STATE);
                due("2 a NOTE is less", noteOrWish(who, 0, v - 1).notes(v), 12);
                due("2 a WISH is v", noteOrWish(who, 1, v).notes(v), STATE);
                due("2 a WISH is more", noteOrWish(who, 1, v + 1).notes(v), v == 11 ? 12 : STATE);
                due("2 a WISH is less", noteOrWish(who, 1, v - 1).notes(v), 12);
            }
        }
        Edges.refused("2 a NOTE is 4", Edges.SOME, STATE, x -> x.notes(4));
        Edges.refused("2 NOTES are more", Edges.SOME, STATE, x -> x.notes(2));
        Edges.Scene wish = new Edges.Scene("a wish of 6", 7, 1, () -> noteOrWish(7, 1, 6));
        Edges.refused("2 a WISH alone", wish, STATE, x -> x.notes(6));
        RingChoir gone = noteOrWish(3, 1, 11);
        gone.sing(3, 1, -1);
        due("2 no WISH more", gone.notes(2), 12);
    }

    /** Eight singers of twelve notes; what is beyond 11 isn't sung. */
    private static RingChoir noteOrWish(int who, int what, int v) {
        RingChoir x = Edges.choir(12, 0, 0, 0, 0, 0, 0, 0, 0);
        x.sing(who, what, v);
        return x;
    }

    // ---- promises 3 to 6

    /** Promise 3: "A SINGER with a RULE .. its number"; Terms 1: KINDS 0 to 6, "m (0 to 99)". */
    private static void singerTaken() {
        for (int kind = 0; kind <= 6; kind++) {
            RingChoir x = new RingChoir();
            due("3 m 0", x.singer(kind, 0), 0);
            due("3 m 99", x.singer(kind, 99), 1);
            due("3 its KIND", x.ofSinger(0, 0), kind);
            due("3 its KIND", x.ofSinger(1, 0), kind);
            due("3 its m", x.ofSinger(0, 1), 0);
            due("3 its m", x.ofSinger(1, 1), 99);
        }
        int[] next = {0, 99 % 7, 0, 0, 99 % 7, 0, 99 % 7};
        for (int kind = 0; kind <= 6; kind++) {
            RingChoir x = new RingChoir();
            x.singer(kind, 99);
            due("3 sings by its RULE, of KIND " + kind, x.ofSinger(0, 5), next[kind]);
        }
    }

    /** Promise 3: "BEYOND", ahead of "FULL". */
    private static void singerBeyond() {
        Edges.outside("3 KIND", BEYOND, 0, 6, (x, v) -> x.singer(v, 0), Edges.SCENES);
        Edges.outside("3 m", BEYOND, 0, 99, (x, v) -> x.singer(0, v), Edges.SCENES);
        Edges.outside("3 KIND and m", BEYOND, 0, 6, (x, v) -> x.singer(v, v < 0 ? v : 100), Edges.SCENES);
    }

    /** Promise 3: "FULL"; Terms 1: SINGERS, "at most 8". */
    private static void singerFull() {
        for (int kind = 0; kind <= 6; kind++) {
            int of = kind;
            Edges.refused("3 the ninth, m 0", Edges.CROWD, FULL, x -> x.singer(of, 0));
            Edges.refused("3 the ninth, m 99", Edges.CROWD, FULL, x -> x.singer(of, 99));
        }
        RingChoir seven = Edges.choir(7, 0, 0, 0, 0, 0, 0, 0);
        due("3 the eighth", seven.singer(6, 99), 7);
        due("3 the ninth", seven.singer(6, 99), FULL);
        due("3 the ninth, again", seven.singer(6, 99), FULL);
    }

    /** Promise 3: "of those who aren't told otherwise all HEAR as in the ring then". */
    private static void singerMovesTheRing() {
        RingChoir x = Edges.choir(7, 0, 0);
        x.net(1, 1, 0);
        due("3 the third", x.singer(0, 0), 2);
        due("3 0 hears the new one", x.ofSinger(0, 3), 2);
        due("3 0 hears the one ahead of it", x.ofSinger(0, 4), 1);
        due("3 1 as told", x.ofSinger(1, 3), 1);
        due("3 1 as told", x.ofSinger(1, 4), 0);
        due("3 1 is still told otherwise", x.ofSinger(1, 7), 1);
        due("3 the new one isn't", x.ofSinger(2, 7), 0);
        RingChoir one = Edges.choir(7, 0);
        one.net(0, 0, 0);
        one.singer(0, 0);
        due("3 told what the ring was: stays", one.ofSinger(0, 3), 0);
        due("3 the second hears 0", one.ofSinger(1, 3), 0);
    }

    /** Promise 4: "Of a SINGER: 0 KIND .. 7 1 if it is told otherwise .. BEYOND". */
    private static void ofSinger() {
        Edges.outside("4 what", BEYOND, 0, 7, (x, v) -> x.ofSinger(0, v), Edges.SCENES);
        for (Edges.Scene s : Edges.SCENES) {
            Edges.outside("4 singer", BEYOND, 0, s.singers - 1, (x, v) -> x.ofSinger(v, 0), s);
            Edges.outside("4 singer, what 7", BEYOND, 0, s.singers - 1, (x, v) -> x.ofSinger(v, 7), s);
            Edges.refused("4 both", s, BEYOND, x -> x.ofSinger(s.singers, 8));
        }
        int[] first = {1, 2, 4, 3, 2, 3, -1, 0};
        int[] second = {2, 0, 3, 3, 3, 2, 3, 1};
        for (int what = 0; what < 8; what++) {
            int of = what;
            Edges.asked("4 of 0: " + what, Edges.SOME, first[what], x -> x.ofSinger(0, of));
            Edges.asked("4 of 1: " + what, Edges.SOME, second[what], x -> x.ofSinger(1, of));
        }
        int[] last = {0, 92, -1, 7, 0, -1, 11, 1};
        RingChoir full = Edges.CROWD.make();
        for (int what : new int[] {0, 1, 3, 4, 6, 7}) {
            due("4 of the eighth: " + what, full.ofSinger(7, what), last[what]);
        }
    }

    /** Promise 5: "100 times the KIND that it was, and its m. BEYOND". */
    private static void rule() {
        for (Edges.Scene s : Edges.SCENES) {
            Edges.outside("5 singer", BEYOND, 0, s.singers - 1, (x, v) -> x.rule(v, 0, 0), s);
        }
        Edges.outside("5 KIND", BEYOND, 0, 6, (x, v) -> x.rule(0, v, 0), Edges.SCENES);
        Edges.outside("5 m", BEYOND, 0, 99, (x, v) -> x.rule(0, 0, v), Edges.SCENES);
        RingChoir x = Edges.choir(7, 0, 0, 0, 0, 0, 0, 0, 0);
        for (int who = 0; who < 8; who++) {
            due("5 it was the least", x.rule(who, 6, 99), 0);
            due("5 it was the most", x.rule(who, 6, 0), 699);
            due("5 it was 600", x.rule(who, 0, 99), 600);
            due("5 it was 99", x.rule(who, 0, 0), 99);
        }
    }

    /** Promise 6: "BEYOND", ahead of "KIND". */
    private static void asBeyond() {
        for (Edges.Scene s : Edges.SCENES) {
            Edges.outside("6 singer", BEYOND, 0, s.singers - 1, (x, v) -> x.as(v, 0), s);
            Edges.outside("6 singer, not of that KIND", BEYOND, 0, s.singers - 1, (x, v) -> x.as(v, 5), s);
        }
        Edges.outside("6 KIND", BEYOND, 0, 6, (x, v) -> x.as(0, v), Edges.SCENES);
        Edges.outside("6 KIND, of a RULE", BEYOND, 0, 6, (x, v) -> x.as(7, v), Edges.CROWD);
    }

    /** Promise 6: "KIND: it isn't of that KIND, nor of one under it". */
    private static void asKind() {
        boolean[][] is = new boolean[7][7];
        int[][] of = {{0}, {1, 0}, {2, 0}, {3, 0}, {4, 2, 0}, {5, 3, 0}, {6, 1, 0}};
        for (int kind = 0; kind < 7; kind++) {
            for (int above : of[kind]) {
                is[kind][above] = true;
            }
        }
        for (int kind = 0; kind < 7; kind++) {
            for (int as = 0; as < 7; as++) {
                int to = as;
                int who = kind;
                if (is[kind][as]) {
                    Edges.asked("6 " + kind + " as " + as, Edges.CROWD, 99 - kind, x -> x.as(who, to));
                } else {
                    Edges.refused("6 " + kind + " as " + as, Edges.CROWD, KIND, x -> x.as(who, to));
                }
            }
        }
        due("6 the least m", Edges.choir(7, 600).as(0, 0), 0);
        due("6 the most", Edges.choir(7, 699).as(0, 6), 99);
    }

    // ---- promises 7 to 10

    /** Promise 7: "A SINGER is told whom it HEARS: first, second: 1. BEYOND". */
    private static void net() {
        for (Edges.Scene s : Edges.SCENES) {
            int last = s.singers - 1;
            Edges.outside("7 singer", BEYOND, 0, last, (x, v) -> x.net(v, 0, 0), s);
            Edges.outside("7 first", BEYOND, 0, last, (x, v) -> x.net(0, v, 0), s);
            Edges.outside("7 second", BEYOND, 0, last, (x, v) -> x.net(0, 0, v), s);
        }
        RingChoir x = Edges.choir(7, 0, 0, 0, 0, 0, 0, 0, 0);
        due("7 the first hears the last", x.net(0, 7, 7), 1);
        due("7 the last hears the first", x.net(7, 0, 0), 1);
        due("7 first", x.ofSinger(7, 3), 0);
        due("7 second", x.ofSinger(0, 4), 7);
        due("7 told what is so in the ring", x.net(3, 2, 1), 1);
        due("7 is told otherwise, too", x.ofSinger(3, 7), 1);
    }

    /** Promise 8: "1 if it was told otherwise, else 0. BEYOND". */
    private static void ring() {
        for (Edges.Scene s : Edges.SCENES) {
            Edges.outside("8 singer", BEYOND, 0, s.singers - 1, RingChoir::ring, s);
        }
        Edges.asked("8 it wasn't told otherwise", Edges.SOME, 0, x -> x.ring(0));
        Edges.asked("8 nor was the last", Edges.SOME, 0, x -> x.ring(3));
        RingChoir x = Edges.CROWD.make();
        due("8 the eighth was", x.ring(7), 1);
        due("8 not any more", x.ring(7), 0);
        due("8 left", x.ofSinger(7, 3), 6);
        due("8 second", x.ofSinger(7, 4), 5);
        due("8 not told otherwise", x.ofSinger(7, 7), 0);
    }

    /** Promise 9: "NOTE (what 0), WISH (1; -1: none) of a SINGER becomes v: what it was". */
    private static void singTaken() {
        RingChoir x = Edges.choir(12, 0, 0, 0, 0, 0, 0, 0, 0);
        for (int who = 0; who < 8; who++) {
            due("9 the largest NOTE", x.sing(who, 0, 11), 0);
            due("9 the smallest NOTE", x.sing(who, 0, 0), 11);
            due("9 the largest WISH", x.sing(who, 1, 11), -1);
            due("9 silence as a WISH", x.sing(who, 1, 0), 11);
            due("9 how many have one", x.count(3), 1);
            due("9 no WISH", x.sing(who, 1, -1), 0);
            due("9 none again", x.sing(who, 1, -1), -1);
            due("9 how many have one", x.count(3), 0);
        }
    }

    /** Promise 9: "BEYOND": the SINGER, what (0, 1), v (a NOTE; for a WISH -1, too). */
    private static void singBeyond() {
        for (Edges.Scene s : Edges.SCENES) {
            Edges.outside("9 singer, NOTE", BEYOND, 0, s.singers - 1, (x, v) -> x.sing(v, 0, 0), s);
            Edges.outside("9 singer, WISH", BEYOND, 0, s.singers - 1, (x, v) -> x.sing(v, 1, 0), s);
            Edges.outside("9 what", BEYOND, 0, 1, (x, v) -> x.sing(0, v, 0), s);
            Edges.outside("9 what, no WISH", BEYOND, 0, 1, (x, v) -> x.sing(0, v, -1), s);
            Edges.outside("9 NOTE", BEYOND, 0, s.n - 1, (x, v) -> x.sing(0, 0, v), s);
            Edges.outside("9 WISH", BEYOND, -1, s.n - 1, (x, v) -> x.sing(0, 1, v), s);
        }
    }

    /** Promise 10: "BEYOND: no such SHEET. NONE: it is missing"; Terms 4: "SHEETS 0 .. 3". */
    private static void beginSheets() {
        Edges.outside("10 sheet", BEYOND, 0, 3, RingChoir::begin, Edges.SCENES);
        for (int s = 0; s < 4; s++) {
            int of = s;
            Edges.refused("10 missing " + s, Edges.EMPTY, NONE, x -> x.begin(of));
            due("10 there " + s, Edges.CROWD.make().begin(s), 8);
        }
        Edges.refused("10 missing 2", Edges.SOME, NONE, x -> x.begin(2));
        Edges.asked("10 no numbers", Edges.SOME, 0, x -> x.begin(3));
    }

    /** Promise 10: "up to the first that is none": N is none, N less 1 is one, 0 is one, -1 is none. */
    private static void beginUpToNoNote() {
        for (int n = 2; n <= 12; n++) {
            for (int bits = 8; bits <= 32; bits *= 2) {
                began("10 N less 1, 0", n, bits, 8, n - 1, 0, n - 1, 0, n - 1, 0, n - 1, 0);
                began("10 N at 0", n, bits, 0, n, 1);
                began("10 N at 1", n, bits, 1, 1, n, 1);
                began("10 -1 at 0", n, bits, 0, -1, 1);
                began("10 N at 7", n, bits, 7, 1, 1, 1, 1, 1, 1, 1, n);
                began("10 -1 at 7", n, bits, 7, 1, 1, 1, 1, 1, 1, 1, -1);
            }
        }
        began("10 128 of 8 bits is none", 12, 8, 1, 1, 128);
        began("10 255 of 8 bits is none", 12, 8, 1, 1, 255);
        began("10 256 of 8 bits is 0", 12, 8, 3, 1, 256, 1);
        began("10 256 of 16 bits is none", 12, 16, 1, 1, 256, 1);
        began("10 65536 of 16 bits is 0", 12, 16, 3, 1, 65536, 1);
        began("10 65536 of 32 bits is none", 12, 32, 1, 1, 65536, 1);
        began("10 the largest int is none", 12, 32, 1, 1, MOST, 1);
        began("10 the smallest int is none", 12, 32, 1, 1, LEAST, 1);
        began("10 the smallest int of 16 bits is 0", 12, 16, 3, 1, LEAST, 1);
    }

    /** All singers sing 1 first, so that those who have no new note are seen. */
    private static void began(String what, int n, int bits, int came, int... numbers) {
        RingChoir x = Edges.sung(Edges.choir(n, 0, 0, 0, 0, 0, 0, 0, 0), 1, 1, 1, 1, 1, 1, 1, 1);
        due(what, Edges.laid(x, 2, bits, numbers).begin(2), came);
        for (int i = 0; i < 8; i++) {
            int v = i < came ? numbers[i] : 1;
            int held = bits == 8 ? (byte) v : bits == 16 ? (short) v : v;
            due(what + ": note of " + i, x.ofSinger(i, 2), held);
        }
    }

    /** Promise 10: "or has no SINGER": more numbers than SINGERS, as many, fewer; no SINGERS. */
    private static void beginUpToNoSinger() {
        for (int singers = 0; singers <= 8; singers++) {
            for (int size : new int[] {0, 1, singers, singers + 1, 40}) {
                RingChoir x = Edges.choir(12, new int[singers]);
                Edges.laid(x, 0, 8, Edges.row(size, 11));
                due("10 " + size + " for " + singers, x.begin(0), Math.min(size, singers));
                long state = 0;
                for (int i = 0; i < Math.min(size, singers); i++) {
                    state = state * 12 + 11;
                }
                due("10 state", x.state(), state);
            }
        }
    }
}
