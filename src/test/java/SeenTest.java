/**
 * That the tests of the edges would see it if a refused call changed something: each call that is taken and
 * changes something makes what Edges.seen() sees another.
 */
public final class SeenTest {
    public static void main(String[] args) {
        some();
        crowd();
        empty();
        images();
        Edges.end("what is seen");
    }

    private static void changes(String what, Edges.Scene scene, Edges.Call call) {
        RingChoir x = scene.make();
        long answer = call.on(x);
        Edges.due(what + " is taken", answer <= Edges.BEYOND && answer >= Edges.KIND ? 0 : 1, 1);
        Edges.unlike(what + " (" + scene.name + ")", Edges.seen(x), Edges.seen(scene.make()));
    }

    private static void some() {
        Edges.Scene s = Edges.SOME;
        Edges.same("made twice", Edges.seen(s.make()), Edges.seen(s.make()));
        changes("notes", s, x -> x.notes(6));
        changes("singer", s, x -> x.singer(0, 0));
        changes("rule, m", s, x -> x.rule(0, 1, 3));
        changes("rule, kind", s, x -> x.rule(1, 4, 0));
        changes("net", s, x -> x.net(0, 3, 2));
        changes("net, second", s, x -> x.net(1, 3, 2));
        changes("ring", s, x -> x.ring(1));
        changes("sing, note", s, x -> x.sing(3, 0, 2));
        changes("sing, wish", s, x -> x.sing(3, 1, 2));
        changes("begin", s, x -> x.begin(1));
        changes("feed", s, x -> x.feed('2', 1));
        changes("text", s, x -> x.text(0));
        changes("a FAULT", s, x -> x.text(1));
        changes("bars", s, x -> x.bars(1));
        changes("loose", s, x -> x.loose(1, 0));
        changes("seed", s, x -> x.seed(-76));
        changes("voice", s, x -> x.voice(1, 0, 0));
        changes("sheet", s, x -> x.sheet(2, 8, 0));
        changes("sheet, bits of 0 numbers", s, x -> x.sheet(3, 16, 0));
        changes("sheet, missing", s, x -> x.sheet(3, 0, 0));
        changes("put", s, x -> x.put(1, 2, 1));
        changes("put, no note", s, x -> x.put(0, 8, -1));
        changes("move", s, x -> x.move(0, 0, 0, 8, 1));
        changes("image", s, RingChoir::image);
        changes("restore", s, RingChoir::restore);
        changes("tell", s, x -> x.tell(0));
        changes("check", s, x -> x.check(0));
    }

    private static void crowd() {
        Edges.Scene s = Edges.CROWD;
        Edges.same("made twice", Edges.seen(s.make()), Edges.seen(s.make()));
        for (int sheet = 0; sheet < 4; sheet++) {
            int of = sheet;
            changes("put, last", s, x -> x.put(of, 39, 0));
            changes("sheet, one less", s, x -> x.sheet(of, 8, 39));
            changes("sheet, bits", s, x -> x.sheet(of, of == 0 ? 16 : of == 1 ? 32 : of == 2 ? 8 : 32, 40));
        }
        changes("sing, note", s, x -> x.sing(7, 0, x.ofSinger(7, 2) == 0 ? 1 : 0));
        changes("sing, wish", s, x -> x.sing(7, 1, -1));
        changes("rule", s, x -> x.rule(7, 0, 91));
        changes("net", s, x -> x.net(7, 0, 7));
        changes("text", s, x -> x.text(0));
        changes("worth", s, x -> x.text(1));
        changes("check", s, x -> x.check(1));
        changes("voice", s, x -> x.voice(0, 0, 0));
        changes("restore", s, RingChoir::restore);
    }

    private static void empty() {
        Edges.Scene s = Edges.EMPTY;
        changes("notes", s, x -> x.notes(8));
        changes("singer", s, x -> x.singer(0, 0));
        changes("feed", s, x -> x.feed('l', 1));
        changes("bars", s, x -> x.bars(1));
        changes("seed", s, x -> x.seed(0));
        changes("sheet", s, x -> x.sheet(0, 8, 0));
        changes("image", s, RingChoir::image);
        changes("tell", s, x -> x.tell(1));
    }

    /** What an image keeps is seen, too: the same choir now, another one in the image. */
    private static void images() {
        Edges.Scene s = Edges.SOME;
        imageChanges("note", s, x -> x.sing(0, 0, 0), x -> x.sing(0, 0, 4));
        imageChanges("wish", s, x -> x.sing(0, 1, 0), x -> x.sing(0, 1, -1));
        imageChanges("rule", s, x -> x.rule(0, 0, 1), x -> x.rule(0, 1, 2));
        imageChanges("net", s, x -> x.net(1, 2, 2), x -> x.net(1, 3, 3));
        imageChanges("N", s, x -> x.notes(7), x -> x.notes(5));
        imageChanges("z", s, x -> x.seed(5), x -> x.seed(-77));
    }

    private static void imageChanges(String what, Edges.Scene scene, Edges.Call change, Edges.Call back) {
        RingChoir x = scene.make();
        RingChoir y = scene.make();
        change.on(x);
        x.image();
        back.on(x);
        y.image();
        Edges.unlike("an image's " + what, Edges.seen(x), Edges.seen(y));
    }
}
