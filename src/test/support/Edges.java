import java.util.ArrayList;
import java.util.List;

/**
 * What the tests of the edges share: scenes (the same object made anew each time), all that can be seen of an
 * object, and calls that are refused, which are held against a twin that wasn't called.
 */
final class Edges {
    static final int LOW = -1000000000;
    static final int BEYOND = LOW - 1;
    static final int NONE = LOW - 2;
    static final int STATE = LOW - 3;
    static final int FULL = LOW - 4;
    static final int KIND = LOW - 5;
    static final int LEAST = Integer.MIN_VALUE;
    static final int MOST = Integer.MAX_VALUE;

    static final Scene EMPTY = new Scene("empty", 7, 0, RingChoir::new);
    static final Scene SOME = new Scene("some", 5, 4, Edges::makeSome);
    static final Scene CROWD = new Scene("full", 12, 8, Edges::makeFull);
    static final Scene[] SCENES = {EMPTY, SOME, CROWD};

    private static int wrong = 0;
    private static int answers = 0;

    private Edges() {
    }

    interface Call {
        long on(RingChoir x);
    }

    interface CallWith {
        long on(RingChoir x, int v);
    }

    interface Maker {
        RingChoir make();
    }

    /** A way to the same object, and what is seen of it when nothing more is called. */
    static final class Scene {
        final String name;
        final int n;
        final int singers;
        private final Maker maker;
        private List<String> untouched;

        Scene(String name, int n, int singers, Maker maker) {
            this.name = name;
            this.n = n;
            this.singers = singers;
            this.maker = maker;
        }

        RingChoir make() {
            return maker.make();
        }

        private List<String> untouched() {
            if (untouched == null) {
                untouched = seen(make());
            }
            return untouched;
        }
    }

    // ---- what is due

    static void due(String what, long got, long want) {
        answers++;
        if (got != want) {
            wrong++;
            System.out.println(what + " answered " + got + ", due is " + want);
        }
    }

    static void end(String what) {
        System.out.println(wrong == 0 ? what + ": " + answers + " answers are as due" : wrong + " answers are not as due");
        if (wrong != 0) {
            System.exit(1);
        }
    }

    /** The call answers the ERROR, which is counted once, and all else is as if it hadn't been called. */
    static void refused(String what, Scene scene, int error, Call call) {
        RingChoir x = scene.make();
        RingChoir twin = scene.make();
        String where = what + ", refused (" + scene.name + ")";
        due(where, call.on(x), error);
        for (int k = 1; k <= 5; k++) {
            due(where + ": told " + k, x.told(k), twin.told(k) + (error == LOW - k ? 1 : 0));
        }
        same(where, seen(x), scene.untouched());
    }

    /** The call answers what is due, no ERROR is counted, and all is as it was. */
    static void asked(String what, Scene scene, long want, Call call) {
        RingChoir x = scene.make();
        RingChoir twin = scene.make();
        String where = what + ", asked (" + scene.name + ")";
        due(where, call.on(x), want);
        for (int k = 1; k <= 5; k++) {
            due(where + ": told " + k, x.told(k), twin.told(k));
        }
        same(where, seen(x), scene.untouched());
    }

    /** Refused for every number just outside of a range, and far outside of it, in each of the scenes. */
    static void outside(String what, int error, int least, int most, CallWith call, Scene... scenes) {
        for (Scene scene : scenes) {
            for (int v : around(least, most)) {
                if (v < least || v > most) {
                    refused(what + " " + v, scene, error, x -> call.on(x, v));
                }
            }
        }
    }

    /** What has the ends of a range behind the lowest 8 or 16 bits is outside, too. */
    static int[] around(int least, int most) {
        return new int[] {least - 1, most + 1, least - 2, most + 2, 0, -1, LEAST, LEAST + 1, MOST, MOST - 1,
            256 + least, 256 + most, 65536 + least, least - 65536, LEAST + most};
    }

    static void same(String what, List<String> got, List<String> want) {
        answers++;
        for (int i = 0; i < want.size() || i < got.size(); i++) {
            String a = i < got.size() ? got.get(i) : "no more";
            String b = i < want.size() ? want.get(i) : "no more";
            if (!a.equals(b)) {
                wrong++;
                System.out.println(what + " changed: " + a + ", due is " + b);
                return;
            }
        }
    }

    static void unlike(String what, List<String> got, List<String> other) {
        answers++;
        if (got.equals(other)) {
            wrong++;
            System.out.println(what + " isn't seen");
        }
    }

    // ---- choirs

    /** Singers by rules: kind times 100 and m. */
    static RingChoir choir(int n, int... rules) {
        RingChoir x = new RingChoir();
        x.notes(n);
        for (int r : rules) {
            x.singer(r / 100, r % 100);
        }
        return x;
    }

    static RingChoir sung(RingChoir x, int... notes) {
        for (int i = 0; i < notes.length; i++) {
            due("sing " + i, x.sing(i, 0, notes[i]) >= 0 ? 1 : 0, 1);
        }
        return x;
    }

    /** Eight bytes a call, as far as they go. */
    static int fed(RingChoir x, String text) {
        int there = x.count(4);
        for (int from = 0; from < text.length(); from += 8) {
            int n = Math.min(8, text.length() - from);
            long word = 0;
            for (int i = 0; i < n; i++) {
                word |= (long) text.charAt(from + i) << (8 * i);
            }
            there = x.feed(word, n);
        }
        return there;
    }

    static int read(RingChoir x, int use, String text) {
        fed(x, text);
        return x.text(use);
    }

    static RingChoir laid(RingChoir x, int sheet, int bits, int... numbers) {
        x.sheet(sheet, bits, numbers.length);
        for (int i = 0; i < numbers.length; i++) {
            x.put(sheet, i, numbers[i]);
        }
        return x;
    }

    static int[] row(int size, int v) {
        int[] row = new int[size];
        java.util.Arrays.fill(row, v);
        return row;
    }

    /**
     * N is 12; singers 0 and 1 count 144 bars round, now being at a phase; 2 sings 1 for a bar behind the last;
     * 3, if it isn't silent, sings one more then, until it is silent.
     */
    static RingChoir clock(int phase) {
        RingChoir x = choir(12, 101, 600, 600, 600);
        due("clock", read(x, 0, "(s=11)*(k=1)+((l=11&s=11)-l)*(k=2)+(l>0)*s*(k=3)"), 1);
        x.net(0, 0, 0);
        x.net(1, 1, 0);
        x.net(2, 1, 0);
        x.net(3, 3, 2);
        return sung(x, phase % 12, phase / 12);
    }

    /**
     * N is 10; 0 and 1 count 100 bars round, 2 sings 1 for a bar behind the last, 3 counts that up to 6: a round
     * of 600 bars. Now is the bar behind 0, which is in the round if 2 is silent.
     */
    static RingChoir sixHundred() {
        RingChoir x = choir(10, 101, 600, 600, 600);
        due("six hundred", read(x, 0, "(s=9&k=1)+((l*s=81)-l)*(k=2)+s*(1-6*(l=5))*(k=3)"), 1);
        x.net(0, 0, 0);
        x.net(1, 1, 0);
        x.net(2, 1, 0);
        x.net(3, 3, 2);
        return sung(x, 1);
    }

    // ---- scenes

    /** Something of all, and one ERROR of each; the image is of another time. */
    private static RingChoir makeSome() {
        RingChoir x = new RingChoir();
        x.restore();
        x.notes(5);
        x.singer(1, 2);
        x.singer(2, 0);
        x.singer(6, 3);
        fed(x, "n*n*n*n*n*n*n*n*n*n*n*n*n*n*n*n*n*n*n*n*n*n*n*n*");
        x.feed(0, 3);
        x.text(1);
        read(x, 0, "l+s*2");
        read(x, 1, "n*3-k");
        sung(x, 1, 2, 4);
        x.notes(2);
        x.as(0, 2);
        x.notes(1);
        x.seed(31);
        fed(x, "k-9");
        x.tell(x.far(1, 0));
        x.image();
        x.singer(3, 1);
        x.text(0);
        read(x, 0, "s-l*m");
        read(x, 1, "n*k+1");
        x.net(1, 3, 3);
        x.sing(1, 1, 3);
        x.sing(2, 1, 0);
        x.bars(3);
        x.seed(-77);
        sung(x, 4, 3, 2, 1);
        fed(x, "l*s+7");
        x.check(0);
        x.tell(x.far(1, 0));
        x.tell(x.far(2, 0));
        x.tell(9);
        x.voice(2, 3, 5);
        laid(x, 0, 8, 4, 3, 2, 1, 4, 4, 0, 1, 2, -3);
        laid(x, 1, 16, 1, 2, 3, 200);
        x.sheet(3, 32, 0);
        return x;
    }

    /** As much of all as there may be; the image is as full. */
    private static RingChoir makeFull() {
        RingChoir x = new RingChoir();
        x.notes(12);
        for (int i = 0; i < 8; i++) {
            x.singer(i % 7, 99 - i);
            x.sing(i, 0, 11);
            x.sing(i, 1, 11);
        }
        x.net(7, 7, 0);
        read(x, 0, "l+l+l+l+l+l+l+l+l+l+l+l+l+l+l+l+l+l+l+l+l+l+l+s*m");
        read(x, 1, "(((((n-k)))))");
        fed(x, "k+l+l+l+l+l+l+l+l+l+l+l+l+l+l+l+l+l+l+l+l+l+l+s+22");
        tellTrue(x, 0, 20);
        x.image();
        x.bars(500);
        x.check(0);
        tellTrue(x, 0, 20);
        x.voice(6, 3, 5);
        fillSheet(x, 0, 8);
        fillSheet(x, 1, 16);
        fillSheet(x, 2, 32);
        fillSheet(x, 3, 8);
        return x;
    }

    static void tellTrue(RingChoir x, int singer, int n) {
        for (int i = 1; i <= n; i++) {
            due("tell", x.tell(x.far(i, singer)), i);
        }
    }

    private static void fillSheet(RingChoir x, int sheet, int bits) {
        x.sheet(sheet, bits, 40);
        for (int i = 0; i < 5; i++) {
            x.put(sheet, i, (7 * i + sheet) % 12);
        }
        x.move(sheet, 0, sheet, 5, 5);
        x.move(sheet, 0, sheet, 10, 10);
        x.move(sheet, 0, sheet, 20, 20);
    }

    // ---- all that can be seen

    /** This uses the object up: what can't be asked is seen by what comes of it. */
    static List<String> seen(RingChoir x) {
        List<String> out = new ArrayList<>();
        for (int i = 0; i < 14; i++) {
            out.add("trace " + i + " " + x.trace(i));
        }
        look(out, x, "now ");
        x.notes(12);
        for (int i = x.count(2); i < 8; i++) {
            x.singer(0, 0);
        }
        for (int s = 0; s < 4; s++) {
            for (int other = 0; other < s; other++) {
                out.add("bits of sheets " + s + " " + other + " " + x.move(s, 0, other, 0, 0));
            }
        }
        for (int s = 0; s < 4; s++) {
            readSheet(out, x, s);
        }
        for (int bits = 8; bits <= 32; bits *= 2) {
            x.sheet(0, bits, 0);
            for (int s = 1; s < 4; s++) {
                out.add("sheet " + s + " has bits " + bits + " " + x.move(0, 0, s, 0, 0));
            }
        }
        out.add("restore " + x.restore());
        look(out, x, "image ");
        out.add("images " + x.image());
        return out;
    }

    private static void look(List<String> out, RingChoir x, String when) {
        for (int what = 0; what < 8; what++) {
            out.add(when + "count " + what + " " + x.count(what));
        }
        for (int i = 0; i < x.count(2); i++) {
            for (int what = 0; what < 8; what++) {
                out.add(when + "ofSinger " + i + " " + what + " " + x.ofSinger(i, what));
            }
        }
        out.add(when + "state " + x.state());
        out.add(when + "adds " + x.law(0, 1, 2, 3, 4) + " " + x.law(0, -7, 5, 0, 2));
        out.add(when + "worth " + x.law(1, 3, 2, 0, 0) + " " + x.law(1, -40, 1, 0, 0));
        if (x.count(2) == 0) {
            x.singer(1, 1);
        }
        out.add(when + "waiting " + x.check(0));
        out.add(when + "tape " + x.text(0));
        out.add(when + "tape " + x.law(0, 1, 2, 3, 4) + " " + x.law(0, -7, 5, 0, 2));
    }

    /** Eight singers, twelve notes: eight numbers are seen at once, up to one that is no note. */
    private static void readSheet(List<String> out, RingChoir x, int sheet) {
        int size = sizeOf(x, sheet);
        out.add("sheet " + sheet + " size " + size);
        for (int from = 0; from < size; from += 8) {
            x.move(sheet, from, sheet, 0, Math.min(8, size - from));
            out.add("sheet " + sheet + " from " + from + " " + x.begin(sheet) + " " + x.state());
        }
        if (size > 0) {
            x.put(sheet, 0, 256 + 1);
            out.add("sheet " + sheet + " bits above 8 " + x.begin(sheet) + " " + x.ofSinger(0, 2));
            x.put(sheet, 0, 65536 + 2);
            out.add("sheet " + sheet + " bits above 16 " + x.begin(sheet) + " " + x.ofSinger(0, 2));
        }
    }

    /** -1: missing. */
    private static int sizeOf(RingChoir x, int sheet) {
        int size = x.move(sheet, 0, sheet, 0, 0) == 0 ? 0 : -1;
        for (int step = 32; step > 0 && size >= 0; step /= 2) {
            size = x.move(sheet, 0, sheet, 0, size + step) == size + step ? size + step : size;
        }
        return size;
    }
}
