import java.util.ArrayDeque;
import java.util.ArrayList;
import java.util.Arrays;
import java.util.HashMap;
import java.util.List;
import java.util.Map;
import java.util.Random;

/**
 * Drawn runs of calls (from fixed seeds) against a second class that is written from the document in another
 * way: real classes for the kinds of rules, texts split at their operators, nothing remembered between calls.
 */
public final class ModelTest {
    private static final int RUNS = 500;
    private static final int CALLS = 512;
    private static int wrong = 0;

    public static void main(String[] args) {
        long answers = 0;
        for (int run = 0; run < RUNS && wrong < 10; run++) {
            answers += new Play(run).play();
        }
        System.out.println(wrong == 0 ? answers + " answers are as the model's" : wrong + " runs go otherwise");
        if (wrong != 0) {
            System.exit(1);
        }
    }

    /** One drawn run. */
    private static final class Play {
        private final Random random;
        private final int run;
        private final RingChoir x = new RingChoir();
        private final Model y = new Model();
        private final List<String> log = new ArrayList<>();
        private final ArrayDeque<Integer> pending = new ArrayDeque<>();
        private int pendingUse = -1;
        private boolean good = true;

        Play(int run) {
            this.run = run;
            this.random = new Random(run);
        }

        int play() {
            int few = random.nextInt(9);
            for (int i = 0; i < CALLS && good; i++) {
                call(few);
            }
            return log.size();
        }

        private void due(String call, long got, long want) {
            log.add(call + " -> " + got);
            if (got != want) {
                good = false;
                wrong++;
                System.out.println("run " + run + ": " + call + " answered " + got + ", the model " + want);
                log.subList(Math.max(0, log.size() - 12), log.size()).forEach(System.out::println);
            }
        }

        private int any(int least, int most) {
            return least + random.nextInt(most - least + 1);
        }

        /** Mostly within, at times at or beyond an edge, or far beyond it. */
        private int about(int least, int most) {
            int how = random.nextInt(48);
            switch (how) {
                case 0: case 1: return least - 1;
                case 2: case 3: return most + 1;
                case 4: case 5: return least;
                case 6: case 7: return most;
                case 8: return Integer.MIN_VALUE;
                case 9: return Integer.MAX_VALUE;
                case 10: return random.nextInt();
                default: return least > most ? least : any(least, most);
            }
        }

        private int wild() {
            switch (random.nextInt(9)) {
                case 0: return Integer.MIN_VALUE;
                case 1: return Integer.MAX_VALUE;
                case 2: case 3: return random.nextInt();
                default: return any(-20, 20);
            }
        }

        private int singer() {
            return about(0, y.singers.size() - 1);
        }

        private int sheet() {
            return about(0, 3);
        }

        private int note() {
            return random.nextInt(4) == 0 ? wild() : any(0, y.n - 1);
        }

        private void call(int few) {
            if (!pending.isEmpty() && random.nextInt(4) != 0) {
                feedPending();
                return;
            }
            switch (random.nextInt(46)) {
                case 0: { int v = about(2, 12); due("notes " + v, x.notes(v), y.notes(v)); break; }
                case 1: case 2: case 3: {
                    if (y.singers.size() >= few && random.nextInt(10) != 0) { break; }
                    int k = about(0, 6), m = about(0, 99);
                    due("singer " + k + " " + m, x.singer(k, m), y.singer(k, m));
                    break;
                }
                case 4: { int s = singer(), w = about(0, 7); due("ofSinger " + s + " " + w, x.ofSinger(s, w), y.ofSinger(s, w)); break; }
                case 5: case 6: {
                    int s = singer(), k = about(0, 6), m = random.nextInt(2) == 0 ? any(0, 11) : about(0, 99);
                    due("rule " + s + " " + k + " " + m, x.rule(s, k, m), y.rule(s, k, m));
                    break;
                }
                case 7: { int s = singer(), k = about(0, 6); due("as " + s + " " + k, x.as(s, k), y.as(s, k)); break; }
                case 8: { int s = singer(), f = singer(), g = singer(); due("net " + s + " " + f + " " + g, x.net(s, f, g), y.net(s, f, g)); break; }
                case 9: { int s = singer(); due("ring " + s, x.ring(s), y.ring(s)); break; }
                case 10: case 11: case 12: {
                    int s = singer(), w = about(0, 1), v = about(w == 1 ? -1 : 0, y.n - 1);
                    due("sing " + s + " " + w + " " + v, x.sing(s, w, v), y.sing(s, w, v));
                    break;
                }
                case 13: { int s = sheet(); due("begin " + s, x.begin(s), y.begin(s)); break; }
                case 14: { long w = random.nextLong(); int n = about(1, 8); if (random.nextInt(6) == 0) { due("feed " + w + " " + n, x.feed(w, n), y.feed(w, n)); } break; }
                case 15: case 16: drawText(); break;
                case 17: { int u = about(0, 1), a = wild(), b = wild(), c = wild(), d = wild(); due("law " + u + " " + a + " " + b + " " + c + " " + d, x.law(u, a, b, c, d), y.law(u, a, b, c, d)); break; }
                case 18: { int n = random.nextInt(3) == 0 ? about(1, 500) : any(1, 5); due("bars " + n, x.bars(n), y.bars(n)); break; }
                case 19: { int n = random.nextInt(9) == 0 ? about(1, 500) : any(1, 9), l = about(0, 100); due("loose " + n + " " + l, x.loose(n, l), y.loose(n, l)); break; }
                case 20: { int n = about(0, 500), s = singer(); due("far " + n + " " + s, x.far(n, s), y.far(n, s)); break; }
                case 21: { int n = about(0, 500); due("worths " + n, x.worths(n), y.worths(n)); break; }
                case 22: due("state", x.state(), y.state()); break;
                case 23: { int w = about(0, 1); due("round " + w, x.round(w), y.round(w)); break; }
                case 24: { int n = about(0, 60), w = about(0, 1); if (dear()) { due("beginnings " + n + " " + w, x.beginnings(n, w), y.beginnings(n, w)); } break; }
                case 25: { int n = about(0, 60); if (dear()) { due("best " + n, x.best(n), y.best(n)); } break; }
                case 26: { int w = about(0, 1); due("before " + w, x.before(w), y.before(w)); break; }
                case 27: due("never", x.never(), y.never()); break;
                case 28: { int w = about(0, 1); due("rings " + w, x.rings(w), y.rings(w)); break; }
                case 29: { int s = sheet(); due("fewest " + s, x.fewest(s), y.fewest(s)); break; }
                case 30: { int s = sheet(), k = singer(); due("made " + s + " " + k, x.made(s, k), y.made(s, k)); break; }
                case 31: { int s = singer(), d = about(1, 11), n = about(0, 200); due("heard " + s + " " + d + " " + n, x.heard(s, d, n), y.heard(s, d, n)); break; }
                case 32: { int s = singer(), d = about(1, 11); due("gone " + s + " " + d, x.gone(s, d), y.gone(s, d)); break; }
                case 33: { int s = sheet(); due("tune " + s, x.tune(s), y.tune(s)); break; }
                case 34: { int w = about(0, 1); if (random.nextInt(8) == 0) { due("longer " + w, x.longer(w), y.longer(w)); } break; }
                case 35: { int v = wild(); due("seed " + v, x.seed(v), y.seed(v)); break; }
                case 36: {
                    int s = singer(), a = about(0, 3), v = wild();
                    due("voice " + s + " " + a + " " + v, x.voice(s, a, v), y.voice(s, a, v));
                    for (int i = -1; i < 16; i++) {
                        due("trace " + i, x.trace(i), y.trace(i));
                    }
                    break;
                }
                case 37: { int s = sheet(), b = new int[] {8, 16, 32, 8, 16, 32, 0, 7}[any(0, 7)], n = random.nextBoolean() ? any(0, 20) : about(0, 40); due("sheet " + s + " " + b + " " + n, x.sheet(s, b, n), y.sheet(s, b, n)); break; }
                case 38: case 39: { int s = sheet(), i = about(0, 24), v = note(); due("put " + s + " " + i + " " + v, x.put(s, i, v), y.put(s, i, v)); break; }
                case 40: { int s = sheet(), i = about(0, 12), o = sheet(), j = about(0, 12), n = about(0, 8); due("move " + s + " " + i + " " + o + " " + j + " " + n, x.move(s, i, o, j, n), y.move(s, i, o, j, n)); break; }
                case 41: images(); break;
                case 42: { int v = note(); due("tell " + v, x.tell(v), y.tell(v)); break; }
                case 43: { int s = singer(); tellTrue(s); due("check " + s, x.check(s), y.check(s)); break; }
                case 44: { int w = about(0, 7); due("count " + w, x.count(w), y.count(w)); break; }
                default: tellBars(); break;
            }
            int k = about(1, 5);
            due("told " + k, x.told(k), y.told(k));
        }

        private boolean dear() {
            return random.nextInt(3) == 0;
        }

        private void images() {
            if (random.nextInt(3) == 0) {
                due("image", x.image(), y.image());
            } else if (random.nextInt(3) == 0) {
                due("restore", x.restore(), y.restore());
            }
        }

        /** Some numbers as they will be sung, so that check() has something to find. */
        private void tellTrue(int singer) {
            int upTo = random.nextInt(6);
            for (int i = 1; i <= upTo && singer >= 0 && singer < y.singers.size(); i++) {
                int v = random.nextInt(9) == 0 ? any(0, 3) : y.far(i, singer);
                due("tell " + v, x.tell(v), y.tell(v));
            }
        }

        /** A sheet of bars, or of a tune, that come so but for a few numbers. */
        private void tellBars() {
            int singers = y.singers.size();
            int s = any(0, 3);
            int bits = new int[] {8, 16, 32}[any(0, 2)];
            boolean tune = random.nextBoolean();
            int size = singers == 0 ? 3 : any(0, 30);
            due("sheet", x.sheet(s, bits, size), y.sheet(s, bits, size));
            int from = any(0, 120), who = any(0, 7);
            for (int i = 0; i < size && singers > 0; i++) {
                int v = tune ? y.far(from + i, who % singers) : y.far(1 + i / singers, i % singers);
                v = random.nextInt(tune ? 200 : 20) == 0 ? note() : v;
                due("put " + s + " " + i + " " + v, x.put(s, i, v), y.put(s, i, v));
            }
            if (tune) {
                due("tune " + s, x.tune(s), y.tune(s));
                return;
            }
            int k = singer();
            due("fewest " + s, x.fewest(s), y.fewest(s));
            if (k >= 0 && k < singers && random.nextInt(3) != 0) {
                due("rule " + k, x.rule(k, 6, 0), y.rule(k, 6, 0));
            }
            due("made " + s + " " + k, x.made(s, k), y.made(s, k));
        }

        private void drawText() {
            pendingUse = any(0, 1);
            StringBuilder out = new StringBuilder();
            draw(out, any(0, 6), pendingUse == 0 ? "lsmk" : "nk");
            if (random.nextInt(3) == 0 && out.length() > 0) {
                int at = any(0, out.length() - 1);
                String signs = "lsmkn0123456789+-*/%<=>&|!() ";
                if (random.nextBoolean()) {
                    out.setCharAt(at, signs.charAt(any(0, signs.length() - 1)));
                } else {
                    out.insert(at, signs.charAt(any(0, signs.length() - 1)));
                }
            }
            pending.clear();
            for (int i = 0; i < out.length() && i < 50; i++) {
                pending.add((int) out.charAt(i));
            }
        }

        private void draw(StringBuilder out, int deep, String names) {
            int parts = any(1, 3);
            for (int i = 0; i < parts; i++) {
                if (i > 0) {
                    out.append("+-*/%<=>&|+-*".charAt(any(0, 12)));
                }
                int how = random.nextInt(8);
                if (how == 0 && deep > 0) {
                    out.append('!').append(names.charAt(any(0, names.length() - 1)));
                } else if (how < 3 && deep > 0) {
                    out.append(how == 1 ? "!(" : "(");
                    draw(out, deep - 1, names);
                    out.append(')');
                } else if (how < 5) {
                    out.append(random.nextInt(new int[] {10, 100, 1000, 10000, 13}[any(0, 4)]));
                } else {
                    out.append(names.charAt(any(0, names.length() - 1)));
                }
            }
        }

        private void feedPending() {
            int n = Math.min(pending.size(), any(1, 8));
            long word = n == 8 ? 0 : random.nextLong() << (8 * n);
            for (int i = 0; i < n; i++) {
                word |= (long) pending.poll() << (8 * i);
            }
            due("feed " + word + " " + n, x.feed(word, n), y.feed(word, n));
            if (pending.isEmpty()) {
                due("text " + pendingUse, x.text(pendingUse), y.text(pendingUse));
            }
        }
    }

    // ---- the model

    private static class Rule {
        int m;
        Model model;

        long next(long l, long s, int k) { return l; }

        int hears(int x, int n) { log(10); return x + n; }

        int sings(int x, int n) { log(11); return hears(x, n) * 2; }

        int rests(int x, int n) { log(12); return x - m; }

        int tells(int x, int n) { log(13); return sings(x, n) ^ rests(x, n); }

        void log(int body) { model.trace.add(body); }
    }

    private static class Shifted extends Rule {
        @Override long next(long l, long s, int k) { return super.next(l, s, k) + m; }

        @Override int sings(int x, int n) { log(20); return super.sings(x, n) - rests(1, n); }
    }

    private static class Summed extends Rule {
        @Override long next(long l, long s, int k) { return super.next(l, s, k) + s; }

        @Override int hears(int x, int n) { log(30); return super.hears(x, n) * 3; }
    }

    private static class Gated extends Rule {
        @Override long next(long l, long s, int k) { return l != 0 && s != 0 ? 0 : super.next(l, s, k); }

        @Override int rests(int x, int n) { log(40); return -super.rests(x, n); }
    }

    private static class Raised extends Summed {
        @Override long next(long l, long s, int k) { return super.next(l, s, k) + m; }

        @Override int hears(int x, int n) { log(50); return super.hears(x + 1, n); }
    }

    private static class Greater extends Gated {
        @Override long next(long l, long s, int k) { return Math.max(s, super.next(l, s, k)); }

        @Override int tells(int x, int n) { log(60); return super.tells(x, n) - hears(2, n); }
    }

    private static class Telling extends Shifted {
        @Override long next(long l, long s, int k) {
            return super.next(l, s, k) + model.adds((int) l, (int) s, m, k);
        }

        @Override int sings(int x, int n) { log(70); return super.sings(x, n) ^ n; }

        @Override int tells(int x, int n) { log(71); return sings(x, n) - super.tells(x, n); }
    }

    private static final class Singer {
        int kind;
        int m;
        int note;
        int wish = -1;
        int first = -1;
        int second = -1;

        Singer copy() {
            Singer c = new Singer();
            c.kind = kind;
            c.m = m;
            c.note = note;
            c.wish = wish;
            c.first = first;
            c.second = second;
            return c;
        }
    }

    private static final class Model {
        static final int LOW = -1000000000;
        int n = 7;
        List<Singer> singers = new ArrayList<>();
        int bar;
        int z = 1;
        String tape = "";
        String[] texts = new String[2];
        List<Integer> waiting = new ArrayList<>();
        final List<Integer> trace = new ArrayList<>();
        final int[] errors = new int[6];
        final int[][] sheets = new int[4][];
        final int[] bits = new int[4];
        Model kept;
        int images;

        int err(int k) { errors[k]++; return LOW - k; }

        static boolean in(int v, int a, int b) { return a <= v && v <= b; }

        boolean is(int singer) { return in(singer, 0, singers.size() - 1); }

        Rule make(int kind, int m) {
            Rule r;
            switch (kind) {
                case 0: r = new Rule(); break;
                case 1: r = new Shifted(); break;
                case 2: r = new Summed(); break;
                case 3: r = new Gated(); break;
                case 4: r = new Raised(); break;
                case 5: r = new Greater(); break;
                default: r = new Telling(); break;
            }
            r.m = m;
            r.model = this;
            return r;
        }

        int first(int i) {
            Singer s = singers.get(i);
            return s.first >= 0 ? s.first : Math.floorMod(i - 1, singers.size());
        }

        int second(int i) {
            Singer s = singers.get(i);
            return s.second >= 0 ? s.second : Math.floorMod(i - 2, singers.size());
        }

        int[] now() { return singers.stream().mapToInt(s -> s.note).toArray(); }

        int next(int i, Rule r, int[] row) {
            return (int) Math.floorMod(r.next(row[first(i)], row[second(i)], i), (long) n);
        }

        int[] bar(int[] row) {
            int[] out = new int[row.length];
            for (int i = 0; i < row.length; i++) {
                out[i] = next(i, make(singers.get(i).kind, singers.get(i).m), row);
            }
            return out;
        }

        int[] ahead(int[] row, int bars) {
            for (int i = 0; i < bars; i++) {
                row = bar(row);
            }
            return row;
        }

        void take(int[] row) {
            for (int i = 0; i < row.length; i++) {
                singers.get(i).note = row[i];
            }
        }

        int adds(int l, int s, int m, int k) {
            return texts[0] == null ? 0 : value(texts[0], "lsmk", l, s, m, k);
        }

        int worth(int note, int k) {
            int v = value(texts[1] == null ? "n" : texts[1], "nk", note, k);
            return v > 999 ? 999 : Math.max(v, -999);
        }

        int worthsOf(int[] row) {
            int sum = 0;
            for (int i = 0; i < row.length; i++) {
                sum += worth(row[i], i);
            }
            return sum;
        }

        /** Splits at the last sign of the weakest kind outside of brackets. */
        static int value(String t, String names, int... values) {
            for (String signs : new String[] {"|", "&", "<=>", "+-", "*/%"}) {
                int open = 0;
                for (int i = t.length() - 1; i >= 0; i--) {
                    char c = t.charAt(i);
                    open += c == ')' ? 1 : c == '(' ? -1 : 0;
                    if (open == 0 && signs.indexOf(c) >= 0) {
                        return join(c, value(t.substring(0, i), names, values), value(t.substring(i + 1), names, values));
                    }
                }
            }
            char c = t.charAt(0);
            if (c == '!') {
                return value(t.substring(1), names, values) == 0 ? 1 : 0;
            }
            if (c == '(') {
                return value(t.substring(1, t.length() - 1), names, values);
            }
            return names.indexOf(c) >= 0 ? values[names.indexOf(c)] : Integer.parseInt(t);
        }

        static int join(char c, int x, int y) {
            switch (c) {
                case '|': return x != 0 | y != 0 ? 1 : 0;
                case '&': return x != 0 & y != 0 ? 1 : 0;
                case '<': return x < y ? 1 : 0;
                case '=': return x == y ? 1 : 0;
                case '>': return x > y ? 1 : 0;
                case '+': return x + y;
                case '-': return x - y;
                case '*': return x * y;
                case '/': return y == 0 ? 0 : (int) ((long) x / y);
                default: return y == 0 ? 0 : (int) ((long) x % y);
            }
        }

        /** One byte after the other, by what may stand there. */
        static int fault(String t, String names) {
            ArrayDeque<int[]> frames = new ArrayDeque<>();
            frames.push(new int[2]);
            boolean wants = true;
            int digits = 0;
            for (int i = 0; i < t.length(); i++) {
                char c = t.charAt(i);
                int open = frames.size() - 1;
                for (int[] f : frames) {
                    open += f[1];
                }
                int[] frame = frames.peek();
                if (wants) {
                    if (c == '!' && open < 5) {
                        frame[1]++;
                    } else if (c == '(' && open < 5) {
                        frames.push(new int[2]);
                    } else if (Character.isDigit(c) && c < 128 || names.indexOf(c) >= 0) {
                        wants = false;
                        digits = names.indexOf(c) >= 0 ? 4 : 1;
                        frame[1] = 0;
                    } else {
                        return i;
                    }
                } else if (c >= '0' && c <= '9' && digits < 4) {
                    digits++;
                } else if (c == ')' && frames.size() > 1) {
                    frames.pop();
                    frames.peek()[1] = 0;
                    digits = 4;
                } else if ("+-*/%|&".indexOf(c) >= 0 || "<=>".indexOf(c) >= 0 && frame[0] == 0) {
                    frame[0] = "<=>".indexOf(c) >= 0 ? 1 : "|&".indexOf(c) >= 0 ? 0 : frame[0];
                    wants = true;
                } else {
                    return i;
                }
            }
            return wants || frames.size() > 1 ? t.length() : -1;
        }

        int notes(int v) {
            if (!in(v, 2, 12)) { return err(1); }
            for (Singer s : singers) {
                if (s.note >= v || s.wish >= v) { return err(3); }
            }
            int was = n;
            n = v;
            return was;
        }

        int singer(int kind, int m) {
            if (!in(kind, 0, 6) || !in(m, 0, 99)) { return err(1); }
            if (singers.size() == 8) { return err(4); }
            Singer s = new Singer();
            s.kind = kind;
            s.m = m;
            singers.add(s);
            return singers.size() - 1;
        }

        int ofSinger(int i, int what) {
            if (!is(i) || !in(what, 0, 7)) { return err(1); }
            Singer s = singers.get(i);
            return new int[] {s.kind, s.m, s.note, first(i), second(i), bar(now())[i], s.wish, s.first >= 0 ? 1 : 0}[what];
        }

        int rule(int i, int kind, int m) {
            if (!is(i) || !in(kind, 0, 6) || !in(m, 0, 99)) { return err(1); }
            Singer s = singers.get(i);
            int was = 100 * s.kind + s.m;
            s.kind = kind;
            s.m = m;
            return was;
        }

        int as(int i, int kind) {
            if (!is(i) || !in(kind, 0, 6)) { return err(1); }
            Rule r = make(singers.get(i).kind, singers.get(i).m);
            return make(kind, 0).getClass().isInstance(r) ? r.m : err(5);
        }

        int net(int i, int first, int second) {
            if (!is(i) || !is(first) || !is(second)) { return err(1); }
            singers.get(i).first = first;
            singers.get(i).second = second;
            return 1;
        }

        int ring(int i) {
            if (!is(i)) { return err(1); }
            int was = singers.get(i).first >= 0 ? 1 : 0;
            singers.get(i).first = -1;
            singers.get(i).second = -1;
            return was;
        }

        int sing(int i, int what, int v) {
            if (!is(i) || !in(what, 0, 1) || v < (what == 0 ? 0 : -1) || v >= n) { return err(1); }
            Singer s = singers.get(i);
            int was = what == 0 ? s.note : s.wish;
            if (what == 0) { s.note = v; } else { s.wish = v; }
            return was;
        }

        int begin(int sheet) {
            if (!in(sheet, 0, 3)) { return err(1); }
            if (sheets[sheet] == null) { return err(2); }
            int came = 0;
            for (int v : sheets[sheet]) {
                if (came == singers.size() || !in(v, 0, n - 1)) { break; }
                singers.get(came++).note = v;
            }
            return came;
        }

        int feed(long word, int count) {
            if (!in(count, 1, 8)) { return err(1); }
            if (tape.length() + count > 50) { return err(4); }
            for (int i = 0; i < count; i++) {
                tape += (char) (word >> 8 * i & 255);
            }
            return tape.length();
        }

        int text(int use) {
            if (!in(use, 0, 1)) { return err(1); }
            String t = tape;
            tape = "";
            int fault = fault(t, use == 0 ? "lsmk" : "nk");
            if (fault >= 0) { return -10 - fault; }
            texts[use] = t;
            return 1;
        }

        int law(int use, int a, int b, int c, int d) {
            return use == 0 ? adds(a, b, c, d) : use == 1 ? worth(a, b) : err(1);
        }

        int bars(int count) {
            if (!in(count, 1, 500)) { return err(1); }
            if (bar + count > 999999) { return err(3); }
            take(ahead(now(), count));
            return bar += count;
        }

        int draw() { z = z * 1103515245 + 12345; return z >>> 8; }

        int loose(int count, int loose) {
            if (!in(count, 1, 500) || !in(loose, 0, 100)) { return err(1); }
            if (bar + count > 999999 || singers.isEmpty()) { return err(3); }
            for (int i = 0; i < count; i++) {
                take(bar(now()));
                Singer s = singers.get(draw() % singers.size());
                s.note = draw() % 100 < loose ? (s.note + 1) % n : s.note;
            }
            return bar += count;
        }

        int far(int count, int i) { return in(count, 0, 500) && is(i) ? ahead(now(), count)[i] : err(1); }

        int worths(int count) { return in(count, 0, 500) ? worthsOf(ahead(now(), count)) : err(1); }

        long stateOf(int[] row) {
            long sum = 0;
            long times = 1;
            for (int v : row) {
                sum += v * times;
                times *= n;
            }
            return sum;
        }

        long state() { return stateOf(now()); }

        int[] tailAndLength() {
            Map<Long, Integer> seen = new HashMap<>();
            int[] row = now();
            for (int i = 0; i <= 600; i++) {
                Integer was = seen.putIfAbsent(stateOf(row), i);
                if (was != null) { return new int[] {was, i - was}; }
                row = bar(row);
            }
            return null;
        }

        int round(int what) {
            if (!in(what, 0, 1)) { return err(1); }
            int[] found = tailAndLength();
            return found == null ? err(2) : found[what];
        }

        boolean many() { return Math.pow(n, singers.size()) > 3000; }

        int states() { return (int) Math.pow(n, singers.size()); }

        int[] row(int state) {
            int[] row = new int[singers.size()];
            for (int i = 0; i < row.length; i++) {
                row[i] = state % n;
                state /= n;
            }
            return row;
        }

        int[] map() {
            int[] to = new int[states()];
            for (int i = 0; i < to.length; i++) {
                to[i] = (int) stateOf(bar(row(i)));
            }
            return to;
        }

        static int walk(int[] map, int at, int count) {
            return count == 0 ? at : walk(map, map[at], count - 1);
        }

        int beginnings(int count, int what) {
            if (!in(count, 0, 60) || !in(what, 0, 1)) { return err(1); }
            if (many()) { return err(3); }
            int[] map = map();
            List<Integer> good = new ArrayList<>();
            for (int i = 0; i < map.length; i++) {
                int[] row = row(walk(map, i, count));
                boolean all = true;
                for (int k = 0; k < row.length; k++) {
                    all &= singers.get(k).wish < 0 || singers.get(k).wish == row[k];
                }
                if (all) { good.add(i); }
            }
            return what == 0 ? good.size() : good.isEmpty() ? -1 : good.get(0);
        }

        int best(int count) {
            if (!in(count, 0, 60)) { return err(1); }
            if (many()) { return err(3); }
            int[] map = map();
            int best = 0;
            int[] worths = new int[map.length];
            for (int i = 0; i < map.length; i++) {
                worths[i] = worthsOf(row(i));
            }
            for (int i = 0; i < map.length; i++) {
                if (worths[walk(map, i, count)] > worths[walk(map, best, count)]) { best = i; }
            }
            return best;
        }

        int before(int what) {
            if (!in(what, 0, 1)) { return err(1); }
            if (many()) { return err(3); }
            List<Integer> found = new ArrayList<>();
            int[] map = map();
            for (int i = 0; i < map.length; i++) {
                if (map[i] == state()) { found.add(i); }
            }
            return what == 0 ? found.size() : found.isEmpty() ? -1 : found.get(0);
        }

        int never() {
            if (many()) { return err(3); }
            return states() - (int) Arrays.stream(map()).distinct().count();
        }

        /** Who is still there after as many bars as there are states is in a round. */
        int rings(int what) {
            if (!in(what, 0, 1)) { return err(1); }
            if (many()) { return err(3); }
            int[] map = map();
            boolean[] in = new boolean[map.length];
            Arrays.fill(in, true);
            boolean less = true;
            while (less) {
                boolean[] hit = new boolean[map.length];
                for (int i = 0; i < map.length; i++) {
                    if (in[i]) { hit[map[i]] = true; }
                }
                less = !Arrays.equals(in, hit);
                in = hit;
            }
            int count = 0, longest = 0;
            for (int i = 0; i < map.length; i++) {
                int bars = 0;
                for (int at = i; in[at]; at = map[at]) {
                    in[at] = false;
                    bars++;
                }
                count += bars > 0 ? 1 : 0;
                longest = Math.max(longest, bars);
            }
            return what == 0 ? count : longest;
        }

        boolean sings(int[] told, int i, int kind, int m) {
            int[] row = now();
            int size = singers.size();
            for (int at = 0; at + size <= told.length; at += size) {
                if (next(i, make(kind, m), row) != told[at + i]) { return false; }
                row = Arrays.copyOfRange(told, at, at + size);
            }
            return true;
        }

        int fewest(int sheet) {
            if (!in(sheet, 0, 3)) { return err(1); }
            if (sheets[sheet] == null) { return err(2); }
            int odd = 0;
            for (int i = 0; i < singers.size(); i++) {
                odd += sings(sheets[sheet], i, singers.get(i).kind, singers.get(i).m) ? 0 : 1;
            }
            return odd;
        }

        int made(int sheet, int i) {
            if (!in(sheet, 0, 3) || !is(i)) { return err(1); }
            if (sheets[sheet] == null) { return err(2); }
            Singer s = singers.get(i);
            if (sings(sheets[sheet], i, s.kind, s.m)) { return 100 * s.kind + s.m; }
            for (int told = 0; told < 600; told++) {
                if (told % 100 < n && sings(sheets[sheet], i, told / 100, told % 100)) { return told; }
            }
            return err(2);
        }

        int[] cough(int i, int d) {
            int[] row = now();
            row[i] = (row[i] + d) % n;
            return row;
        }

        int heard(int i, int d, int count) {
            if (!is(i) || !in(d, 1, 11) || !in(count, 0, 200)) { return err(1); }
            int[] a = ahead(now(), count), b = ahead(cough(i, d), count);
            int sum = 0;
            for (int k = 0; k < a.length; k++) {
                sum += a[k] == b[k] ? 0 : 1 << k;
            }
            return sum;
        }

        int gone(int i, int d) {
            if (!is(i) || !in(d, 1, 11)) { return err(1); }
            int[] a = now(), b = cough(i, d);
            for (int count = 0; count <= 200; count++, a = bar(a), b = bar(b)) {
                if (Arrays.equals(a, b)) { return count; }
            }
            return err(2);
        }

        int tune(int sheet) {
            if (!in(sheet, 0, 3)) { return err(1); }
            if (sheets[sheet] == null || sheets[sheet].length == 0) { return err(2); }
            List<int[]> rows = new ArrayList<>();
            for (int[] row = now(); rows.size() < 150; row = bar(row)) {
                rows.add(row);
            }
            for (int told = 0; told <= 1007; told++) {
                boolean all = told % 10 < singers.size();
                for (int k = 0; all && k < sheets[sheet].length; k++) {
                    all = rows.get(told / 10 + k)[told % 10] == sheets[sheet][k];
                }
                if (all) { return told; }
            }
            return err(2);
        }

        int longer(int what) {
            if (!in(what, 0, 1)) { return err(1); }
            int most = 0, which = 0;
            for (int i = 0; i < singers.size(); i++) {
                Singer s = singers.get(i), was = s.copy();
                for (s.kind = 0; s.kind < 6; s.kind++) {
                    for (s.m = 0; s.m < n; s.m++) {
                        int[] found = tailAndLength();
                        if (found != null && found[1] > most) {
                            most = found[1];
                            which = 10000 * i + 100 * s.kind + s.m;
                        }
                    }
                }
                singers.set(i, was);
            }
            return most == 0 ? err(2) : what == 0 ? which : most;
        }

        int seed(int v) { int was = z; z = v; return was; }

        int voice(int i, int act, int v) {
            if (!is(i) || !in(act, 0, 3)) { return err(1); }
            trace.clear();
            Rule r = make(singers.get(i).kind, singers.get(i).m);
            return act == 0 ? r.hears(v, i) : act == 1 ? r.sings(v, i) : act == 2 ? r.rests(v, i) : r.tells(v, i);
        }

        int trace(int i) { return in(i, 0, trace.size() - 1) ? trace.get(i) : err(2); }

        int sheet(int sheet, int wide, int count) {
            if (!in(sheet, 0, 3)) { return err(1); }
            if (wide == 0) { sheets[sheet] = null; return 1; }
            if (wide != 8 && wide != 16 && wide != 32) { return err(1); }
            if (count < 0) { return err(3); }
            if (count > 40) { return err(1); }
            sheets[sheet] = new int[count];
            bits[sheet] = wide;
            return 1;
        }

        int put(int sheet, int i, int v) {
            if (!in(sheet, 0, 3)) { return err(1); }
            if (sheets[sheet] == null) { return err(2); }
            if (!in(i, 0, sheets[sheet].length - 1)) { return err(1); }
            sheets[sheet][i] = v << 32 - bits[sheet] >> 32 - bits[sheet];
            return 1;
        }

        int move(int sheet, int i, int other, int j, int count) {
            if (!in(sheet, 0, 3) || !in(other, 0, 3)) { return err(1); }
            if (sheets[sheet] == null || sheets[other] == null) { return err(2); }
            if (bits[sheet] != bits[other]) { return err(5); }
            if (count < 0 || i < 0 || j < 0 || (long) i + count > sheets[sheet].length
                || (long) j + count > sheets[other].length) { return err(1); }
            int[] all = sheets[sheet].clone();
            for (int k = 0; k < count; k++) {
                sheets[other][j + k] = all[i + k];
            }
            return count;
        }

        static void copy(Model from, Model to) {
            to.n = from.n;
            to.singers = new ArrayList<>();
            from.singers.forEach(s -> to.singers.add(s.copy()));
            to.bar = from.bar;
            to.z = from.z;
            to.tape = from.tape;
            to.texts = from.texts.clone();
            to.waiting = new ArrayList<>(from.waiting);
        }

        int image() {
            kept = new Model();
            copy(this, kept);
            return ++images;
        }

        int restore() {
            if (kept == null) { return err(2); }
            copy(kept, this);
            return bar;
        }

        int tell(int v) {
            if (waiting.size() == 20) { return err(4); }
            waiting.add(v);
            return waiting.size();
        }

        int check(int i) {
            List<Integer> told = waiting;
            waiting = new ArrayList<>();
            if (!is(i)) { return err(1); }
            for (int k = 0; k < told.size(); k++) {
                if (ahead(now(), k + 1)[i] != told.get(k)) { return 1 + k; }
            }
            return 0;
        }

        int count(int what) {
            int wishes = (int) singers.stream().filter(s -> s.wish >= 0).count();
            int[] all = {bar, n, singers.size(), wishes, tape.length(), waiting.size(), trace.size(), z};
            return in(what, 0, 7) ? all[what] : err(1);
        }

        int told(int k) { return in(k, 1, 5) ? errors[k] : err(1); }
    }
}
