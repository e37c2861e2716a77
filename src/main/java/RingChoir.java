import java.util.Arrays;

/** Each sings what he heard on his left: ../shared/DOC.md says what every call answers. */
public final class RingChoir {
    private static final int LOW = -1000000000;
    private static final int BEYOND = 1;
    private static final int NONE = 2;
    private static final int STATE = 3;
    private static final int FULL = 4;
    private static final int KIND = 5;

    private static final int MOST_SINGERS = 8;
    private static final int MOST_NOTES = 12;
    private static final int MOST_M = 99;
    private static final int LAST_BAR = 999999;
    private static final int TAPE_BYTES = 50;
    private static final int MOST_WAITING = 20;
    private static final int SHEETS = 4;
    private static final int SHEET_NUMBERS = 40;
    private static final int MOST_BARS = 500;
    private static final int MOST_COUGH_BARS = 200;
    private static final int MOST_WISH_BARS = 60;
    private static final int LAST_TUNE_BAR = 100;
    private static final int ROUND_BARS = 600;
    private static final int MOST_STATES = 3000;
    private static final int MOST_WORTH = 999;

    private static final int RULE = 0;
    private static final int SHIFTED = 1;
    private static final int SUMMED = 2;
    private static final int GATED = 3;
    private static final int RAISED = 4;
    private static final int GREATER = 5;
    private static final int TELLING = 6;
    private static final int LAST_MADE_KIND = GREATER;
    private static final int[] KIND_ABOVE = {-1, 0, 0, 0, 2, 3, 1};

    private final Choir choir = new Choir();
    private final Choir kept = new Choir();
    private final Steps steps = new Steps();
    private final Run run = new Run();
    private final Run coughed = new Run();
    private final Rounds rounds = new Rounds();
    private final AllStates all = new AllStates();
    private final Sheets sheets = new Sheets();
    private final Voices voices = new Voices();
    private final Reader reader = new Reader();
    private final int[] tuneNotes = new int[MOST_SINGERS * (LAST_TUNE_BAR + SHEET_NUMBERS)];
    private final int[] errors = new int[KIND + 1];
    private int images = 0;

    public RingChoir() {
    }

    // ---- singers, rules

    public int notes(int v) {
        if (!within(v, 2, MOST_NOTES)) {
            return fail(BEYOND);
        }
        for (int i = 0; i < choir.singers; i++) {
            if (choir.notes[i] >= v || choir.wishes[i] >= v) {
                return fail(STATE);
            }
        }
        int was = choir.range;
        choir.range = v;
        steps.forgetAll();
        return was;
    }

    public int singer(int kind, int m) {
        if (!isRule(kind, m)) {
            return fail(BEYOND);
        }
        if (choir.singers >= MOST_SINGERS) {
            return fail(FULL);
        }
        int number = choir.join(kind, m);
        steps.forget(number);
        return number;
    }

    public int ofSinger(int singer, int what) {
        if (!choir.has(singer)) {
            return fail(BEYOND);
        }
        switch (what) {
            case 0: return choir.kinds[singer];
            case 1: return choir.numbers[singer];
            case 2: return choir.notes[singer];
            case 3: return choir.firsts[singer];
            case 4: return choir.seconds[singer];
            case 5: return noteAhead(1, singer);
            case 6: return choir.wishes[singer];
            case 7: return choir.netted[singer];
            default: return fail(BEYOND);
        }
    }

    public int rule(int singer, int kind, int m) {
        if (!choir.has(singer) || !isRule(kind, m)) {
            return fail(BEYOND);
        }
        int was = 100 * choir.kinds[singer] + choir.numbers[singer];
        choir.kinds[singer] = kind;
        choir.numbers[singer] = m;
        steps.forget(singer);
        return was;
    }

    public int as(int singer, int kind) {
        if (!choir.has(singer) || !within(kind, RULE, TELLING)) {
            return fail(BEYOND);
        }
        return isUnder(choir.kinds[singer], kind) ? choir.numbers[singer] : fail(KIND);
    }

    public int net(int singer, int first, int second) {
        if (!choir.has(singer) || !choir.has(first) || !choir.has(second)) {
            return fail(BEYOND);
        }
        choir.netted[singer] = 1;
        choir.firsts[singer] = first;
        choir.seconds[singer] = second;
        return 1;
    }

    public int ring(int singer) {
        if (!choir.has(singer)) {
            return fail(BEYOND);
        }
        int was = choir.netted[singer];
        choir.netted[singer] = 0;
        choir.hearAsInRing();
        return was;
    }

    public int sing(int singer, int what, int v) {
        if (!choir.has(singer) || !within(what, 0, 1) || !within(v, -what, choir.range - 1)) {
            return fail(BEYOND);
        }
        int[] row = what == 0 ? choir.notes : choir.wishes;
        int was = row[singer];
        row[singer] = v;
        return was;
    }

    public int begin(int sheet) {
        if (!isSheet(sheet)) {
            return fail(BEYOND);
        }
        if (sheets.isMissing(sheet)) {
            return fail(NONE);
        }
        int most = Math.min(choir.singers, sheets.size(sheet));
        int came = 0;
        while (came < most && within(sheets.number(sheet, came), 0, choir.range - 1)) {
            choir.notes[came] = sheets.number(sheet, came);
            came++;
        }
        return came;
    }

    // ---- texts, bars

    public int feed(long word, int n) {
        if (!within(n, 1, 8)) {
            return fail(BEYOND);
        }
        if (choir.fed + n > TAPE_BYTES) {
            return fail(FULL);
        }
        for (int i = 0; i < n; i++) {
            choir.tape[choir.fed + i] = (byte) (word >>> (8 * i));
        }
        choir.fed += n;
        return choir.fed;
    }

    public int text(int use) {
        if (!within(use, 0, 1)) {
            return fail(BEYOND);
        }
        int fault = reader.faultOf(choir.tape, choir.fed, use);
        choir.fed = 0;
        if (fault >= 0) {
            return -10 - fault;
        }
        if (use == 0) {
            choir.adds.copyFrom(reader.law);
            steps.forgetAll();
        } else {
            choir.worth.copyFrom(reader.law);
        }
        return 1;
    }

    public int law(int use, int a, int b, int c, int d) {
        switch (use) {
            case 0: return choir.adds.isMissing() ? 0 : choir.adds.valueOf(a, b, c, d);
            case 1: return choir.worthOf(a, b);
            default: return fail(BEYOND);
        }
    }

    public int bars(int n) {
        if (!within(n, 1, MOST_BARS)) {
            return fail(BEYOND);
        }
        if (choir.bar + n > LAST_BAR) {
            return fail(STATE);
        }
        goBy(n);
        return choir.bar;
    }

    public int loose(int n, int loose) {
        if (!within(n, 1, MOST_BARS) || !within(loose, 0, 100)) {
            return fail(BEYOND);
        }
        if (choir.bar + n > LAST_BAR || choir.singers == 0) {
            return fail(STATE);
        }
        for (int i = 0; i < n; i++) {
            goBy(1);
            choir.slip(loose);
        }
        return choir.bar;
    }

    // ---- ahead

    public int far(int n, int singer) {
        if (!within(n, 0, MOST_BARS) || !choir.has(singer)) {
            return fail(BEYOND);
        }
        return noteAhead(n, singer);
    }

    public int worths(int n) {
        if (!within(n, 0, MOST_BARS)) {
            return fail(BEYOND);
        }
        run.startFrom(choir.notes);
        run.goOn(choir, steps, n);
        int sum = 0;
        for (int i = 0; i < choir.singers; i++) {
            sum += choir.worthOf(run.row[i], i);
        }
        return sum;
    }

    public long state() {
        return choir.stateOf(choir.notes);
    }

    public int round(int what) {
        if (!within(what, 0, 1)) {
            return fail(BEYOND);
        }
        if (!rounds.comesRound(choir, steps)) {
            return fail(NONE);
        }
        return what == 0 ? rounds.tail : rounds.length;
    }

    // ---- all states

    public int beginnings(int n, int what) {
        if (!within(n, 0, MOST_WISH_BARS) || !within(what, 0, 1)) {
            return fail(BEYOND);
        }
        if (!all.fill(choir, steps)) {
            return fail(STATE);
        }
        all.findWished(choir, n);
        return what == 0 ? all.found : all.first;
    }

    public int best(int n) {
        if (!within(n, 0, MOST_WISH_BARS)) {
            return fail(BEYOND);
        }
        if (!all.fill(choir, steps)) {
            return fail(STATE);
        }
        return all.worthiest(choir, n);
    }

    public int before(int what) {
        if (!within(what, 0, 1)) {
            return fail(BEYOND);
        }
        if (!all.fill(choir, steps)) {
            return fail(STATE);
        }
        all.findAhead(choir.stateOf(choir.notes));
        return what == 0 ? all.found : all.first;
    }

    public int never() {
        if (!all.fill(choir, steps)) {
            return fail(STATE);
        }
        return all.behindNone();
    }

    public int rings(int what) {
        if (!within(what, 0, 1)) {
            return fail(BEYOND);
        }
        if (!all.fill(choir, steps)) {
            return fail(STATE);
        }
        all.findRounds();
        return what == 0 ? all.found : all.longest;
    }

    // ---- odd ones, coughs, tunes

    public int fewest(int sheet) {
        if (!isSheet(sheet)) {
            return fail(BEYOND);
        }
        if (sheets.isMissing(sheet)) {
            return fail(NONE);
        }
        int odd = 0;
        for (int i = 0; i < choir.singers; i++) {
            if (isOdd(sheet, i, choir.kinds[i], choir.numbers[i])) {
                odd++;
            }
        }
        return odd;
    }

    public int made(int sheet, int singer) {
        if (!isSheet(sheet) || !choir.has(singer)) {
            return fail(BEYOND);
        }
        if (sheets.isMissing(sheet)) {
            return fail(NONE);
        }
        int kind = choir.kinds[singer];
        int m = choir.numbers[singer];
        int making = isOdd(sheet, singer, kind, m) ? firstMaking(sheet, singer) : 100 * kind + m;
        return making < 0 ? fail(NONE) : making;
    }

    public int heard(int singer, int d, int n) {
        if (!isCough(singer, d) || !within(n, 0, MOST_COUGH_BARS)) {
            return fail(BEYOND);
        }
        startCough(singer, d);
        run.goOn(choir, steps, n);
        coughed.goOn(choir, steps, n);
        return run.unlike(coughed, choir.singers);
    }

    public int gone(int singer, int d) {
        if (!isCough(singer, d)) {
            return fail(BEYOND);
        }
        startCough(singer, d);
        for (int n = 0; n <= MOST_COUGH_BARS; n++) {
            if (run.unlike(coughed, choir.singers) == 0) {
                return n;
            }
            run.goOn(choir, steps, 1);
            coughed.goOn(choir, steps, 1);
        }
        return fail(NONE);
    }

    public int tune(int sheet) {
        if (!isSheet(sheet)) {
            return fail(BEYOND);
        }
        if (sheets.isMissing(sheet) || sheets.size(sheet) == 0) {
            return fail(NONE);
        }
        writeTuneNotes(LAST_TUNE_BAR + sheets.size(sheet));
        for (int bar = 0; bar <= LAST_TUNE_BAR; bar++) {
            for (int i = 0; i < choir.singers; i++) {
                if (goesBy(sheet, bar, i)) {
                    return 10 * bar + i;
                }
            }
        }
        return fail(NONE);
    }

    public int longer(int what) {
        if (!within(what, 0, 1)) {
            return fail(BEYOND);
        }
        rounds.findLongest(choir, steps);
        if (rounds.longest == 0) {
            return fail(NONE);
        }
        return what == 0 ? rounds.which : rounds.longest;
    }

    // ---- draws, voices, sheets, images, what is told

    public int seed(int v) {
        int was = choir.z;
        choir.z = v;
        return was;
    }

    public int voice(int singer, int act, int x) {
        if (!choir.has(singer) || !within(act, Voices.HEARS, Voices.TELLS)) {
            return fail(BEYOND);
        }
        return voices.sound(choir, singer, act, x);
    }

    public int trace(int i) {
        return within(i, 0, voices.begun - 1) ? voices.bodies[i] : fail(NONE);
    }

    public int sheet(int sheet, int bits, int n) {
        if (!isSheet(sheet) || (bits != 0 && bits != 8 && bits != 16 && bits != 32)) {
            return fail(BEYOND);
        }
        if (bits != 0 && n < 0) {
            return fail(STATE);
        }
        if (bits != 0 && n > SHEET_NUMBERS) {
            return fail(BEYOND);
        }
        sheets.lay(sheet, bits, bits == 0 ? 0 : n);
        return 1;
    }

    public int put(int sheet, int i, int v) {
        if (!isSheet(sheet)) {
            return fail(BEYOND);
        }
        if (sheets.isMissing(sheet)) {
            return fail(NONE);
        }
        if (!within(i, 0, sheets.size(sheet) - 1)) {
            return fail(BEYOND);
        }
        sheets.write(sheet, i, v);
        return 1;
    }

    public int move(int sheet, int i, int other, int j, int n) {
        if (!isSheet(sheet) || !isSheet(other)) {
            return fail(BEYOND);
        }
        if (sheets.isMissing(sheet) || sheets.isMissing(other)) {
            return fail(NONE);
        }
        if (!sheets.areAlike(sheet, other)) {
            return fail(KIND);
        }
        if (!sheets.stand(sheet, i, n) || !sheets.stand(other, j, n)) {
            return fail(BEYOND);
        }
        sheets.carry(sheet, i, other, j, n);
        return n;
    }

    public int image() {
        kept.copyFrom(choir);
        images++;
        return images;
    }

    public int restore() {
        if (images == 0) {
            return fail(NONE);
        }
        choir.copyFrom(kept);
        steps.forgetAll();
        return choir.bar;
    }

    public int tell(int v) {
        if (choir.waits >= MOST_WAITING) {
            return fail(FULL);
        }
        choir.waiting[choir.waits] = v;
        choir.waits++;
        return choir.waits;
    }

    public int check(int singer) {
        int waited = choir.waits;
        choir.waits = 0;
        if (!choir.has(singer)) {
            return fail(BEYOND);
        }
        run.startFrom(choir.notes);
        for (int i = 0; i < waited; i++) {
            run.goOn(choir, steps, 1);
            if (run.row[singer] != choir.waiting[i]) {
                return 1 + i;
            }
        }
        return 0;
    }

    public int count(int what) {
        switch (what) {
            case 0: return choir.bar;
            case 1: return choir.range;
            case 2: return choir.singers;
            case 3: return choir.wishing();
            case 4: return choir.fed;
            case 5: return choir.waits;
            case 6: return voices.begun;
            case 7: return choir.z;
            default: return fail(BEYOND);
        }
    }

    public int told(int k) {
        return within(k, BEYOND, KIND) ? errors[k] : fail(BEYOND);
    }

    // ---- what the calls share

    private int fail(int error) {
        errors[error]++;
        return LOW - error;
    }

    private static boolean within(int v, int least, int most) {
        return v >= least && v <= most;
    }

    private static boolean isRule(int kind, int m) {
        return within(kind, RULE, TELLING) && within(m, 0, MOST_M);
    }

    private static boolean isSheet(int sheet) {
        return within(sheet, 0, SHEETS - 1);
    }

    private static boolean isUnder(int kind, int above) {
        int at = kind;
        for (int i = 0; i < KIND_ABOVE.length && at >= 0 && at != above; i++) {
            at = KIND_ABOVE[at];
        }
        return at == above;
    }

    private int noteAhead(int n, int singer) {
        run.startFrom(choir.notes);
        run.goOn(choir, steps, n);
        return run.row[singer];
    }

    private void goBy(int n) {
        run.startFrom(choir.notes);
        run.goOn(choir, steps, n);
        System.arraycopy(run.row, 0, choir.notes, 0, MOST_SINGERS);
        choir.bar += n;
    }

    private boolean isCough(int singer, int d) {
        return choir.has(singer) && within(d, 1, MOST_NOTES - 1);
    }

    private void startCough(int singer, int d) {
        run.startFrom(choir.notes);
        coughed.startFrom(choir.notes);
        coughed.row[singer] = choir.countedRound((long) choir.notes[singer] + d);
    }

    private boolean isOdd(int sheet, int singer, int kind, int m) {
        int whole = choir.singers == 0 ? 0 : sheets.size(sheet) / choir.singers;
        int l = choir.notes[choir.firsts[singer]];
        int s = choir.notes[choir.seconds[singer]];
        for (int bar = 0; bar < whole; bar++) {
            int at = bar * choir.singers;
            int sung = choir.countedRound(choir.sumOf(kind, m, l, s, singer));
            if (sung != sheets.number(sheet, at + singer)) {
                return true;
            }
            l = sheets.number(sheet, at + choir.firsts[singer]);
            s = sheets.number(sheet, at + choir.seconds[singer]);
        }
        return false;
    }

    private int firstMaking(int sheet, int singer) {
        for (int kind = RULE; kind <= LAST_MADE_KIND; kind++) {
            for (int m = 0; m < choir.range; m++) {
                if (!isOdd(sheet, singer, kind, m)) {
                    return 100 * kind + m;
                }
            }
        }
        return -1;
    }

    private void writeTuneNotes(int bars) {
        run.startFrom(choir.notes);
        for (int bar = 0; bar < bars; bar++) {
            System.arraycopy(run.row, 0, tuneNotes, bar * MOST_SINGERS, MOST_SINGERS);
            run.goOn(choir, steps, 1);
        }
    }

    private boolean goesBy(int sheet, int bar, int singer) {
        for (int i = 0; i < sheets.size(sheet); i++) {
            if (tuneNotes[(bar + i) * MOST_SINGERS + singer] != sheets.number(sheet, i)) {
                return false;
            }
        }
        return true;
    }

    /** All that an image keeps. */
    private static final class Choir {
        final int[] kinds = new int[MOST_SINGERS];
        final int[] numbers = new int[MOST_SINGERS];
        final int[] notes = new int[MOST_SINGERS];
        final int[] wishes = new int[MOST_SINGERS];
        final int[] firsts = new int[MOST_SINGERS];
        final int[] seconds = new int[MOST_SINGERS];
        final int[] netted = new int[MOST_SINGERS];
        final byte[] tape = new byte[TAPE_BYTES];
        final int[] waiting = new int[MOST_WAITING];
        final Law adds = new Law();
        final Law worth = new Law();
        int range = 7;
        int singers = 0;
        int bar = 0;
        int z = 1;
        int fed = 0;
        int waits = 0;

        boolean has(int singer) {
            return singer >= 0 && singer < singers;
        }

        int join(int kind, int m) {
            int number = singers;
            kinds[number] = kind;
            numbers[number] = m;
            notes[number] = 0;
            wishes[number] = -1;
            netted[number] = 0;
            singers++;
            hearAsInRing();
            return number;
        }

        void hearAsInRing() {
            for (int i = 0; i < singers; i++) {
                if (netted[i] == 0) {
                    firsts[i] = (i + singers - 1) % singers;
                    seconds[i] = (i + 2 * singers - 2) % singers;
                }
            }
        }

        int wishing() {
            int with = 0;
            for (int i = 0; i < singers; i++) {
                if (wishes[i] >= 0) {
                    with++;
                }
            }
            return with;
        }

        int countedRound(long v) {
            int rest = (int) (v % range);
            return rest < 0 ? rest + range : rest;
        }

        /** A NEXT NOTE that isn't counted round yet: told bars may hold any int, so the sum is a long. */
        long sumOf(int kind, int m, int l, int s, int singer) {
            int gated = l != 0 && s != 0 ? 0 : l;
            switch (kind) {
                case SHIFTED: return (long) l + m;
                case SUMMED: return (long) l + s;
                case GATED: return gated;
                case RAISED: return (long) l + s + m;
                case GREATER: return Math.max(s, gated);
                case TELLING: return (long) l + m + (adds.isMissing() ? 0 : adds.valueOf(l, s, m, singer));
                default: return l;
            }
        }

        int worthOf(int note, int singer) {
            int v = worth.isMissing() ? note : worth.valueOf(note, singer, 0, 0);
            return Math.max(-MOST_WORTH, Math.min(MOST_WORTH, v));
        }

        /** At most 12 to the power of 8 less 1, which is an int. */
        int stateOf(int[] row) {
            int sum = 0;
            for (int i = singers - 1; i >= 0; i--) {
                sum = sum * range + row[i];
            }
            return sum;
        }

        int draw() {
            z = z * 1103515245 + 12345;
            return z >>> 8;
        }

        /** Both draws are made, whether the second lets the note slip or not. */
        void slip(int loose) {
            int singer = singers == 0 ? 0 : draw() % singers;
            if (draw() % 100 < loose) {
                notes[singer] = countedRound((long) notes[singer] + 1);
            }
        }

        void copyFrom(Choir other) {
            System.arraycopy(other.kinds, 0, kinds, 0, MOST_SINGERS);
            System.arraycopy(other.numbers, 0, numbers, 0, MOST_SINGERS);
            System.arraycopy(other.notes, 0, notes, 0, MOST_SINGERS);
            System.arraycopy(other.wishes, 0, wishes, 0, MOST_SINGERS);
            System.arraycopy(other.firsts, 0, firsts, 0, MOST_SINGERS);
            System.arraycopy(other.seconds, 0, seconds, 0, MOST_SINGERS);
            System.arraycopy(other.netted, 0, netted, 0, MOST_SINGERS);
            System.arraycopy(other.tape, 0, tape, 0, TAPE_BYTES);
            System.arraycopy(other.waiting, 0, waiting, 0, MOST_WAITING);
            adds.copyFrom(other.adds);
            worth.copyFrom(other.worth);
            range = other.range;
            singers = other.singers;
            bar = other.bar;
            z = other.z;
            fed = other.fed;
            waits = other.waits;
        }
    }

    /** A TEXT with its operators behind what they work on; without any it is missing. */
    private static final class Law {
        static final int FIRST_NAME = 10000;
        private static final int MOST_NAMES = 4;

        /** Numbers stand as they are, names from FIRST_NAME on, operators as their sign below 0. */
        private final int[] parts = new int[TAPE_BYTES];
        private final int[] stack = new int[TAPE_BYTES];
        private final int[] named = new int[MOST_NAMES];
        private int size = 0;

        boolean isMissing() {
            return size == 0;
        }

        void clear() {
            size = 0;
        }

        void add(int part) {
            if (size < TAPE_BYTES) {
                parts[size] = part;
                size++;
            }
        }

        void copyFrom(Law other) {
            System.arraycopy(other.parts, 0, parts, 0, TAPE_BYTES);
            size = other.size;
        }

        int valueOf(int a, int b, int c, int d) {
            named[0] = a;
            named[1] = b;
            named[2] = c;
            named[3] = d;
            int top = 0;
            for (int i = 0; i < size; i++) {
                int part = parts[i];
                if (part >= 0) {
                    stack[top] = part < FIRST_NAME ? part : named[part - FIRST_NAME];
                    top++;
                } else if (part == -'!' && top > 0) {
                    stack[top - 1] = stack[top - 1] == 0 ? 1 : 0;
                } else if (top > 1) {
                    top--;
                    stack[top - 1] = joined(-part, stack[top - 1], stack[top]);
                }
            }
            return stack[0];
        }

        private static int joined(int sign, int x, int y) {
            switch (sign) {
                case '|': return x != 0 || y != 0 ? 1 : 0;
                case '&': return x != 0 && y != 0 ? 1 : 0;
                case '<': return x < y ? 1 : 0;
                case '=': return x == y ? 1 : 0;
                case '>': return x > y ? 1 : 0;
                case '+': return x + y;
                case '-': return x - y;
                case '*': return x * y;
                case '/': return y == 0 ? 0 : x / y;
                default: return y == 0 ? 0 : x % y;
            }
        }
    }

    /** Reads THE TAPE; where a part can't be read on, place stays at the byte at fault. */
    private static final class Reader {
        private static final int MOST_OPEN = 5;
        private static final int MOST_DIGITS = 4;
        private static final String ADDS_NAMES = "lsmk";
        private static final String WORTH_NAMES = "nk";

        final Law law = new Law();
        private final byte[] bytes = new byte[TAPE_BYTES];
        private int length = 0;
        private int place = 0;
        private String names = ADDS_NAMES;

        /** The FAULT, or -1 if all is one TEXT, which is in law then. */
        int faultOf(byte[] tape, int fed, int use) {
            System.arraycopy(tape, 0, bytes, 0, TAPE_BYTES);
            length = fed;
            place = 0;
            names = use == 0 ? ADDS_NAMES : WORTH_NAMES;
            law.clear();
            return readEither(0) && place == length ? -1 : place;
        }

        private int sign() {
            return place < length ? bytes[place] & 255 : -1;
        }

        private boolean readEither(int open) {
            boolean good = readBoth(open);
            for (int i = 0; i < TAPE_BYTES && good && sign() == '|'; i++) {
                place++;
                good = readBoth(open);
                law.add(-'|');
            }
            return good;
        }

        private boolean readBoth(int open) {
            boolean good = readCompared(open);
            for (int i = 0; i < TAPE_BYTES && good && sign() == '&'; i++) {
                place++;
                good = readCompared(open);
                law.add(-'&');
            }
            return good;
        }

        private boolean readCompared(int open) {
            boolean good = readSum(open);
            int sign = sign();
            if (good && (sign == '<' || sign == '=' || sign == '>')) {
                place++;
                good = readSum(open);
                law.add(-sign);
            }
            return good;
        }

        private boolean readSum(int open) {
            boolean good = readProduct(open);
            int sign = sign();
            for (int i = 0; i < TAPE_BYTES && good && (sign == '+' || sign == '-'); i++) {
                place++;
                good = readProduct(open);
                law.add(-sign);
                sign = sign();
            }
            return good;
        }

        private boolean readProduct(int open) {
            boolean good = readPart(open);
            int sign = sign();
            for (int i = 0; i < TAPE_BYTES && good && (sign == '*' || sign == '/' || sign == '%'); i++) {
                place++;
                good = readPart(open);
                law.add(-sign);
                sign = sign();
            }
            return good;
        }

        private boolean readPart(int open) {
            int sign = sign();
            if (isDigit(sign)) {
                readNumber();
                return true;
            }
            if (sign == '!' || sign == '(') {
                return open < MOST_OPEN && readOpened(sign, open + 1);
            }
            int name = sign < 0 ? -1 : names.indexOf((char) sign);
            if (name < 0) {
                return false;
            }
            law.add(Law.FIRST_NAME + name);
            place++;
            return true;
        }

        private boolean readOpened(int opening, int open) {
            place++;
            if (opening == '!') {
                boolean good = readPart(open);
                law.add(-'!');
                return good;
            }
            if (!readEither(open) || sign() != ')') {
                return false;
            }
            place++;
            return true;
        }

        private void readNumber() {
            int number = 0;
            for (int i = 0; i < MOST_DIGITS && isDigit(sign()); i++) {
                number = 10 * number + sign() - '0';
                place++;
            }
            law.add(number);
        }

        private static boolean isDigit(int sign) {
            return sign >= '0' && sign <= '9';
        }
    }

    /** One bar; each NEXT NOTE is worked out once and then remembered, as TEXTS are dear. */
    private static final class Steps {
        private final int[][] known = new int[MOST_SINGERS][MOST_NOTES * MOST_NOTES];

        void forget(int singer) {
            Arrays.fill(known[singer], -1);
        }

        void forgetAll() {
            for (int i = 0; i < MOST_SINGERS; i++) {
                forget(i);
            }
        }

        void step(Choir choir, int[] from, int[] to) {
            for (int i = 0; i < choir.singers; i++) {
                int[] mine = known[i];
                int l = from[choir.firsts[i]];
                int s = from[choir.seconds[i]];
                int at = l * MOST_NOTES + s;
                int next = mine[at];
                if (next < 0) {
                    next = choir.countedRound(choir.sumOf(choir.kinds[i], choir.numbers[i], l, s, i));
                    mine[at] = next;
                }
                to[i] = next;
            }
        }
    }

    /** Notes that go on bar by bar beside those of the choir. */
    private static final class Run {
        int[] row = new int[MOST_SINGERS];
        private int[] spare = new int[MOST_SINGERS];

        void startFrom(int[] notes) {
            System.arraycopy(notes, 0, row, 0, MOST_SINGERS);
        }

        void goOn(Choir choir, Steps steps, int bars) {
            for (int i = 0; i < bars; i++) {
                steps.step(choir, row, spare);
                int[] was = row;
                row = spare;
                spare = was;
            }
        }

        int unlike(Run other, int singers) {
            int bits = 0;
            for (int i = 0; i < singers; i++) {
                if (row[i] != other.row[i]) {
                    bits |= 1 << i;
                }
            }
            return bits;
        }
    }

    /** ROUND and LONGER. States seen are kept in slots by their hash, so that a round costs its bars alone. */
    private static final class Rounds {
        private static final int SLOT_BITS = 10;
        private static final int SLOTS = 1 << SLOT_BITS;

        int tail = 0;
        int length = 0;
        int which = 0;
        int longest = 0;
        private final int[] row = new int[MOST_SINGERS];
        private final int[] spare = new int[MOST_SINGERS];
        private final int[] seenStates = new int[SLOTS];
        private final int[] seenBars = new int[SLOTS];
        /** Slots of a search ahead are told by its number, and needn't be cleared. */
        private final int[] seenIn = new int[SLOTS];
        private int search = 0;

        boolean comesRound(Choir choir, Steps steps) {
            search++;
            System.arraycopy(choir.notes, 0, row, 0, MOST_SINGERS);
            for (int bar = 0; bar <= ROUND_BARS; bar++) {
                int earlier = barOf(choir.stateOf(row), bar);
                if (earlier < bar) {
                    tail = earlier;
                    length = bar - earlier;
                    return true;
                }
                steps.step(choir, row, spare);
                System.arraycopy(spare, 0, row, 0, MOST_SINGERS);
            }
            return false;
        }

        /** The bar in which this search saw a state first, which is this one if it is new. */
        private int barOf(int state, int bar) {
            int slot = (state * 0x9E3779B1) >>> (32 - SLOT_BITS);
            for (int i = 0; i < SLOTS && seenIn[slot] == search; i++) {
                if (seenStates[slot] == state) {
                    return seenBars[slot];
                }
                slot = (slot + 1) & (SLOTS - 1);
            }
            seenIn[slot] = search;
            seenStates[slot] = state;
            seenBars[slot] = bar;
            return bar;
        }

        void findLongest(Choir choir, Steps steps) {
            longest = 0;
            which = 0;
            for (int singer = 0; singer < choir.singers; singer++) {
                int ownKind = choir.kinds[singer];
                int ownM = choir.numbers[singer];
                for (int kind = RULE; kind <= LAST_MADE_KIND; kind++) {
                    int most = usesNumber(kind) ? choir.range : 1;
                    for (int m = 0; m < most; m++) {
                        choir.kinds[singer] = kind;
                        choir.numbers[singer] = m;
                        steps.forget(singer);
                        keepLonger(comesRound(choir, steps), 10000 * singer + 100 * kind + m);
                    }
                }
                choir.kinds[singer] = ownKind;
                choir.numbers[singer] = ownM;
                steps.forget(singer);
            }
        }

        /** Of a kind that doesn't, all rules are as the one with 0, which is the first of them. */
        private static boolean usesNumber(int kind) {
            return kind == SHIFTED || kind == RAISED;
        }

        private void keepLonger(boolean round, int told) {
            if (round && length > longest) {
                longest = length;
                which = told;
            }
        }
    }

    /** What is asked of all states, by which state is behind which. */
    private static final class AllStates {
        int found = 0;
        int first = -1;
        int longest = 0;
        private int size = 0;
        private final int[] behind = new int[MOST_STATES];
        private final int[] marks = new int[MOST_STATES];
        private final int[] row = new int[MOST_SINGERS];
        private final int[] next = new int[MOST_SINGERS];
        private final int[] noteWorths = new int[MOST_SINGERS * MOST_NOTES];

        /** False if there are too many states to be asked. */
        boolean fill(Choir choir, Steps steps) {
            size = 1;
            for (int i = 0; i < choir.singers; i++) {
                size *= choir.range;
                if (size > MOST_STATES) {
                    return false;
                }
            }
            Arrays.fill(row, 0);
            for (int state = 0; state < size; state++) {
                steps.step(choir, row, next);
                behind[state] = choir.stateOf(next);
                toNextState(choir);
            }
            return true;
        }

        private void toNextState(Choir choir) {
            int i = 0;
            while (i < choir.singers && row[i] == choir.range - 1) {
                row[i] = 0;
                i++;
            }
            if (i < choir.singers) {
                row[i]++;
            }
        }

        private int after(int state, int bars) {
            int at = state;
            for (int i = 0; i < bars; i++) {
                at = behind[at];
            }
            return at;
        }

        private void find(int state) {
            if (found == 0) {
                first = state;
            }
            found++;
        }

        private void findNone() {
            found = 0;
            first = -1;
        }

        void findWished(Choir choir, int bars) {
            findNone();
            for (int state = 0; state < size; state++) {
                if (isWished(choir, after(state, bars))) {
                    find(state);
                }
            }
        }

        private static boolean isWished(Choir choir, int state) {
            int rest = state;
            for (int i = 0; i < choir.singers; i++) {
                if (choir.wishes[i] >= 0 && choir.wishes[i] != rest % choir.range) {
                    return false;
                }
                rest /= choir.range;
            }
            return true;
        }

        int worthiest(Choir choir, int bars) {
            weighNotes(choir);
            int best = 0;
            int most = 0;
            for (int state = 0; state < size; state++) {
                int sum = worthOfState(choir, after(state, bars));
                if (state == 0 || sum > most) {
                    best = state;
                    most = sum;
                }
            }
            return best;
        }

        private void weighNotes(Choir choir) {
            for (int i = 0; i < choir.singers; i++) {
                for (int note = 0; note < choir.range; note++) {
                    noteWorths[i * MOST_NOTES + note] = choir.worthOf(note, i);
                }
            }
        }

        private int worthOfState(Choir choir, int state) {
            int rest = state;
            int sum = 0;
            for (int i = 0; i < choir.singers; i++) {
                sum += noteWorths[i * MOST_NOTES + rest % choir.range];
                rest /= choir.range;
            }
            return sum;
        }

        void findAhead(int of) {
            findNone();
            for (int state = 0; state < size; state++) {
                if (behind[state] == of) {
                    find(state);
                }
            }
        }

        int behindNone() {
            Arrays.fill(marks, 0);
            int none = size;
            for (int state = 0; state < size; state++) {
                if (marks[behind[state]] == 0) {
                    none--;
                }
                marks[behind[state]] = 1;
            }
            return none;
        }

        /** Each walk marks with its own number: one that ends at its own mark has found a new round. */
        void findRounds() {
            Arrays.fill(marks, 0);
            found = 0;
            longest = 0;
            for (int state = 0; state < size; state++) {
                int at = state;
                for (int i = 0; i < size && marks[at] == 0; i++) {
                    marks[at] = state + 1;
                    at = behind[at];
                }
                if (marks[at] == state + 1) {
                    found++;
                    longest = Math.max(longest, roundFrom(at));
                }
            }
        }

        private int roundFrom(int state) {
            int at = behind[state];
            int bars = 1;
            while (bars < size && at != state) {
                at = behind[at];
                bars++;
            }
            return bars;
        }
    }

    /** SHEETS; of no bits are those that are missing. */
    private static final class Sheets {
        private final int[] bits = new int[SHEETS];
        private final int[] sizes = new int[SHEETS];
        private final int[][] rows = new int[SHEETS][SHEET_NUMBERS];

        boolean isMissing(int sheet) {
            return bits[sheet] == 0;
        }

        int size(int sheet) {
            return sizes[sheet];
        }

        int number(int sheet, int i) {
            return rows[sheet][i];
        }

        boolean areAlike(int sheet, int other) {
            return bits[sheet] == bits[other];
        }

        /** i + n could wrap, so n is held against what is left. */
        boolean stand(int sheet, int i, int n) {
            return i >= 0 && n >= 0 && i <= sizes[sheet] && n <= sizes[sheet] - i;
        }

        void lay(int sheet, int wide, int size) {
            bits[sheet] = wide;
            sizes[sheet] = size;
            Arrays.fill(rows[sheet], 0);
        }

        void write(int sheet, int i, int v) {
            switch (bits[sheet]) {
                case 8: rows[sheet][i] = (byte) v; break;
                case 16: rows[sheet][i] = (short) v; break;
                default: rows[sheet][i] = v; break;
            }
        }

        void carry(int sheet, int i, int other, int j, int n) {
            System.arraycopy(rows[sheet], i, rows[other], j, n);
        }
    }

    /** VOICES, and THE TRACE of the latest. */
    private static final class Voices {
        static final int HEARS = 0;
        static final int SINGS = 1;
        static final int RESTS = 2;
        static final int TELLS = 3;
        private static final int ACTS = 4;
        private static final int MOST_BODIES = 40;
        private static final int MOST_DEEP = 40;

        /** By kind, then by act; 0: the kind has no body of its own. */
        private static final int[] BODIES = {
            10, 11, 12, 13,
            0, 20, 0, 0,
            30, 0, 0, 0,
            0, 0, 40, 0,
            50, 0, 0, 0,
            0, 0, 0, 60,
            0, 70, 0, 71,
        };

        final int[] bodies = new int[MOST_BODIES];
        int begun = 0;
        private int kind = RULE;
        private int n = 0;
        private int m = 0;

        int sound(Choir choir, int singer, int act, int x) {
            kind = choir.kinds[singer];
            m = choir.numbers[singer];
            n = singer;
            begun = 0;
            return own(act, x, 0);
        }

        private int own(int act, int x, int deep) {
            return from(kind, act, x, deep);
        }

        private int from(int lowest, int act, int x, int deep) {
            int at = lowest;
            for (int i = 0; i < KIND_ABOVE.length && at > RULE && BODIES[at * ACTS + act] == 0; i++) {
                at = KIND_ABOVE[at];
            }
            if (at < RULE || deep > MOST_DEEP) {
                return 0;
            }
            int body = BODIES[at * ACTS + act];
            if (begun < MOST_BODIES) {
                bodies[begun] = body;
                begun++;
            }
            return perform(body, KIND_ABOVE[at], x, deep + 1);
        }

        private int perform(int body, int above, int x, int deep) {
            switch (body) {
                case 10: return x + n;
                case 11: return own(HEARS, x, deep) * 2;
                case 12: return x - m;
                case 13: return own(SINGS, x, deep) ^ own(RESTS, x, deep);
                case 20: return from(above, SINGS, x, deep) - own(RESTS, 1, deep);
                case 30: return from(above, HEARS, x, deep) * 3;
                case 40: return -from(above, RESTS, x, deep);
                case 50: return from(above, HEARS, x + 1, deep);
                case 60: return from(above, TELLS, x, deep) - own(HEARS, 2, deep);
                case 70: return from(above, SINGS, x, deep) ^ n;
                case 71: return own(SINGS, x, deep) - from(above, TELLS, x, deep);
                default: return 0;
            }
        }
    }
}
