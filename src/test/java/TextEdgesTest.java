/**
 * The edges of Terms 2 and of promises 11 to 15: each test's remark has the sentence that it holds. Refused calls
 * are held against a twin (Edges.refused): the ERROR, one more in told(), and nothing else is another.
 */
public final class TextEdgesTest {
    private static final int BEYOND = Edges.BEYOND;
    private static final int STATE = Edges.STATE;
    private static final int FULL = Edges.FULL;
    private static final int LEAST = Edges.LEAST;
    private static final int MOST = Edges.MOST;
    private static final int LAST_BAR = 999999;

    private static final String DIGITS = "0123456789";
    private static final String SIGNS = "|&+-*/%";
    private static final String COMPARING = "<=>";

    public static void main(String[] args) {
        whatMayFollow();
        numbersOfFourDigits();
        noBlanks();
        fiveOpen();
        closedOnesAreNotOpen();
        endsTooEarly();
        fiftyBytes();
        namesOfUses();
        intsThatWrap();
        quotientsAndRests();
        truth();
        allIsWorkedOut();
        withoutAText();
        worthIsHeld();
        feedBeyond();
        feedFull();
        feedBytes();
        textBeyond();
        textTaken();
        textFault();
        lawBeyond();
        lawNames();
        barsBeyond();
        barsTaken();
        barsState();
        looseBeyond();
        looseState();
        howLoose();
        looseCountedRound();
        Edges.end("texts, bars");
    }

    private static void due(String what, long got, long want) {
        Edges.due(what, got, want);
    }

    /** -1: it is a TEXT. */
    private static int faultOf(int use, String text) {
        int answer = Edges.read(new RingChoir(), use, text);
        return answer == 1 ? -1 : -10 - answer;
    }

    private static int value(String text, int l, int s) {
        RingChoir x = new RingChoir();
        due(text + " is a TEXT", Edges.read(x, 0, text), 1);
        return x.law(0, l, s, 0, 0);
    }

    // ---- Terms 2

    /** Terms 2: "FAULT: the place of the first byte with which no TEXT goes on": all 256 bytes behind each part. */
    private static void whatMayFollow() {
        for (int use = 0; use < 2; use++) {
            String names = use == 0 ? "lsmk" : "nk";
            String part = DIGITS + names + "!(";
            String all = SIGNS + COMPARING;
            follow(use, "", part);
            follow(use, "k", all);
            follow(use, "1", all + DIGITS);
            follow(use, "123", all + DIGITS);
            follow(use, "1234", all);
            follow(use, "!", part);
            follow(use, "!k", all);
            follow(use, "(", part);
            follow(use, "(k", all + ")");
            follow(use, "(k)", all);
            follow(use, "((k)", all + ")");
            for (char sign : all.toCharArray()) {
                follow(use, "k" + sign, part);
            }
            for (char sign : COMPARING.toCharArray()) {
                follow(use, "k" + sign + "k", SIGNS);
                follow(use, "k" + sign + "1", SIGNS + DIGITS);
                follow(use, "k" + sign + "k+k*k", SIGNS);
                follow(use, "k" + sign + "k&k", all);
                follow(use, "k" + sign + "k|k", all);
                follow(use, "(k" + sign + "k", SIGNS + ")");
                follow(use, "(k" + sign + "k)", all);
                follow(use, "k" + sign + "(k", all + ")");
                follow(use, "k" + sign + "(k)", SIGNS);
            }
            follow(use, "!!!!!", DIGITS + names);
            follow(use, "(((((", DIGITS + names);
            follow(use, "!!!!!k", all);
            follow(use, "(((((k", all + ")");
            follow(use, "(((((k)", all + ")");
            follow(use, "(((((k)+", part);
            follow(use, "(((((k)))))", all);
            follow(use, "((((!k", all + ")");
            follow(use, "((((!k+", part);
        }
    }

    private static void follow(int use, String ahead, String good) {
        for (int b = 0; b < 256; b++) {
            String text = ahead + (char) b;
            int fault = faultOf(use, text);
            boolean goesOn = good.indexOf((char) b) >= 0;
            due("FAULT of " + ahead + " and byte " + b, fault == ahead.length() ? 0 : 1, goesOn ? 1 : 0);
            due("FAULT of " + ahead + " and byte " + b + ", what is behind", faultOf(use, text + " "),
                ahead.length() + (goesOn ? 1 : 0));
        }
    }

    /** Terms 2: "a NUMBER of 1 to 4 digits". */
    private static void numbersOfFourDigits() {
        String[] good = {"0", "9", "00", "99", "000", "999", "0000", "9999", "0009"};
        int[] values = {0, 9, 0, 99, 0, 999, 0, 9999, 9};
        for (int i = 0; i < good.length; i++) {
            due("NUMBER " + good[i], value(good[i], 0, 0), values[i]);
        }
        due("5 digits", faultOf(0, "12345"), 4);
        due("5 digits, all 0", faultOf(0, "00000"), 4);
        due("9 digits", faultOf(0, "123456789"), 4);
        due("5 digits behind a sign", faultOf(0, "l-10000"), 6);
        due("5 digits behind !", faultOf(0, "!10000"), 5);
        due("5 digits in ( )", faultOf(0, "(10000)"), 5);
        due("4 digits twice", value("9999+9999", 0, 0), 19998);
        due("no digit", faultOf(0, "l+"), 2);
    }

    /** Terms 2: "No blanks." */
    private static void noBlanks() {
        due("a blank first", faultOf(0, " l"), 0);
        due("a blank alone", faultOf(0, " "), 0);
        due("a blank last", faultOf(0, "l "), 1);
        due("a blank within", faultOf(0, "l +s"), 1);
        due("a blank behind a sign", faultOf(0, "l+ s"), 2);
        due("a blank behind (", faultOf(0, "( l)"), 1);
        due("a blank within a NUMBER", faultOf(0, "1 2"), 1);
        due("a line's end", faultOf(0, "l\n"), 1);
        due("a tab", faultOf(0, "\tl"), 0);
        due("a byte 0", faultOf(0, "l\0"), 1);
    }

    /** Terms 2: "At most 5 of ! and ( are open at once": each mix of 5, and of 6. */
    private static void fiveOpen() {
        for (int mix = 0; mix < 32; mix++) {
            StringBuilder opened = new StringBuilder();
            StringBuilder closed = new StringBuilder();
            for (int i = 0; i < 5; i++) {
                boolean bang = (mix >> i & 1) == 0;
                opened.append(bang ? '!' : '(');
                closed.append(bang ? "" : ")");
            }
            String text = opened + "l" + closed;
            due(text, faultOf(0, text), -1);
            due(opened + "!", faultOf(0, opened + "!l" + closed), 5);
            due(opened + "(", faultOf(0, opened + "(l)" + closed), 5);
            due(opened + " alone", faultOf(0, opened.toString()), 5);
            due(opened + " less one", faultOf(0, opened.substring(0, 4) + "l" + (closed.length() > 0 && opened.charAt(4) == '('
                ? closed.substring(1) : closed)), -1);
        }
        int bangs = value("!!!!!l", 0, 0);
        due("!!!!! of 0", bangs, 1);
        due("!!!!! of 7", value("!!!!!l", 7, 0), 0);
        due("((((( of 7", value("(((((l)))))", 7, 0), 7);
    }

    /** Terms 2: "open at once": what is closed doesn't count, be it ( ) or ! of a whole Q. */
    private static void closedOnesAreNotOpen() {
        due("( ) six times", faultOf(0, "(l)+(l)+(l)+(l)+(l)+(l)"), -1);
        due("! six times", faultOf(0, "!l+!l+!l+!l+!l+!l"), -1);
        due("5 and 5", faultOf(0, "!!!!!l+!!!!!l"), -1);
        due("5 and 6", faultOf(0, "!!!!!l+!!!!!!l"), 12);
        due("5 and 5 of (", faultOf(0, "(((((l)))))*(((((l)))))"), -1);
        due("5 and 6 of (", faultOf(0, "(((((l)))))*((((((l))))))"), 17);
        due("! of a whole ( ) is closed", faultOf(0, "!(!(!l)*!(!l)*!(!l))"), -1);
        due("4 are open behind ! l", faultOf(0, "((((!l*(l)))))"), -1);
        due("4 are open behind ! l, 6", faultOf(0, "((((!l*(!l)))))"), 8);
        due("! of a whole ( ) is closed, 6", faultOf(0, "!(!(!l)*!(!(l)))"), 11);
        due("! ahead of ( is open within", faultOf(0, "!(!(!l))"), -1);
        due("! ahead of ( is open within, 6", faultOf(0, "!(!(!(l)))"), 5);
    }

    /** Terms 2: "how many there are, if it ends too early". */
    private static void endsTooEarly() {
        String[] texts = {"", "!", "(", "l+", "l-", "l*", "l/", "l%", "l<", "l=", "l>", "l&", "l|", "(l", "(l+s", "(l+s)*",
            "!(", "!!!!!", "(((((", "(((((l))))", "l+s*m-k/", "1234<5678&"};
        for (String text : texts) {
            due("ends too early: " + text, faultOf(0, text), text.length());
        }
    }

    /** Terms 2: "THE TAPE (bytes, at most 50)": a TEXT and a FAULT of 50 bytes. */
    private static void fiftyBytes() {
        String sum = "l+l+l+l+l+l+l+l+l+l+l+l+l+l+l+l+l+l+l+l+l+l+l+l+";
        due("50 bytes", sum.length(), 48);
        due("50, a TEXT", value(sum + "10", 3, 0), 82);
        due("49, a TEXT", value(sum + "1", 3, 0), 73);
        due("50, ends too early", faultOf(0, sum + "l+"), 50);
        due("50, the last is at fault", faultOf(0, sum + "l)"), 49);
        due("50, the first is at fault", faultOf(0, ")" + sum + "l"), 0);
        due("50, a use 1", faultOf(1, sum.replace('l', 'n') + "10"), -1);
        due("50, many parts", value("l-l-l-l-l-l-l-l-l-l-l-l-l-l-l-l-l-l-l-l-l-l-l-l-!l", 5, 0), -110);
    }

    /** Terms 2: "USES: 0 ADDS, NAMES l, s, m, k .. 1 WORTH of a NOTE, NAMES n .. k": all other bytes are no NAMES. */
    private static void namesOfUses() {
        for (int b = 0; b < 256; b++) {
            String sign = "" + (char) b;
            boolean digit = DIGITS.indexOf(sign) >= 0;
            boolean opens = sign.equals("!") || sign.equals("(");
            due("ADDS, byte " + b, faultOf(0, sign), digit || "lsmk".contains(sign) ? -1 : opens ? 1 : 0);
            due("WORTH, byte " + b, faultOf(1, sign), digit || "nk".contains(sign) ? -1 : opens ? 1 : 0);
        }
    }

    /** Terms 2: "Ints that wrap". */
    private static void intsThatWrap() {
        due("the largest and 1", value("l+1", MOST, 0), LEAST);
        due("the largest and itself", value("l+s", MOST, MOST), -2);
        due("the smallest less 1", value("l-1", LEAST, 0), MOST);
        due("the smallest less itself", value("l-s", LEAST, LEAST), 0);
        due("0 less the smallest", value("0-l", LEAST, 0), LEAST);
        due("the smallest times -1", value("l*s", LEAST, -1), LEAST);
        due("the largest times 2", value("l*2", MOST, 0), -2);
        due("the largest times itself", value("l*s", MOST, MOST), 1);
        due("9999 four times", value("9999*9999*9999*9999", 0, 0), 9999 * 9999 * 9999 * 9999);
        due("compared as they are", value("l<s", LEAST, MOST), 1);
        due("compared as they are", value("l>s", LEAST, MOST), 0);
    }

    /** Terms 2: "/ cut, % the rest that it leaves, both by 0 are 0"; "Quotients are cut". */
    private static void quotientsAndRests() {
        int[][] cases = {{7, 2, 3, 1}, {-7, 2, -3, -1}, {7, -2, -3, 1}, {-7, -2, 3, -1}, {1, 2, 0, 1}, {-1, 2, 0, -1},
            {0, 5, 0, 0}, {6, 3, 2, 0}, {-6, 3, -2, 0}, {0, 0, 0, 0}, {5, 0, 0, 0}, {-5, 0, 0, 0}, {LEAST, 0, 0, 0},
            {MOST, 0, 0, 0}, {LEAST, -1, LEAST, 0}, {LEAST, 1, LEAST, 0}, {MOST, -1, -MOST, 0}, {MOST, LEAST, 0, MOST},
            {LEAST, MOST, -1, -1}, {LEAST, LEAST, 1, 0}, {LEAST, 2, -1073741824, 0}};
        for (int[] c : cases) {
            due(c[0] + " / " + c[1], value("l/s", c[0], c[1]), c[2]);
            due(c[0] + " % " + c[1], value("l%s", c[0], c[1]), c[3]);
        }
    }

    /** Terms 2: "| & < = > ! are 1 or 0, what is not 0 being true". */
    private static void truth() {
        int[] all = {0, 1, -1, 2, LEAST, MOST};
        for (int l : all) {
            due("! " + l, value("!l", l, 0), l == 0 ? 1 : 0);
            for (int s : all) {
                due(l + " | " + s, value("l|s", l, s), l == 0 && s == 0 ? 0 : 1);
                due(l + " & " + s, value("l&s", l, s), l == 0 || s == 0 ? 0 : 1);
                due(l + " < " + s, value("l<s", l, s), l < s ? 1 : 0);
                due(l + " = " + s, value("l=s", l, s), l == s ? 1 : 0);
                due(l + " > " + s, value("l>s", l, s), l > s ? 1 : 0);
            }
        }
        due("one alone stays as it is", value("l", MOST, 0), MOST);
        due("( ) of one alone, too", value("(l)", -7, 0), -7);
    }

    /** Terms 2: "all is worked out": what stands behind doesn't matter to what is known already. */
    private static void allIsWorkedOut() {
        due("1 | ..", value("1|l/0", 3, 0), 1);
        due("0 & ..", value("0&l%0", 3, 0), 0);
        due("1 | .. & ..", value("1|0&0", 0, 0), 1);
        due("0 & .. | ..", value("0&0|1", 0, 0), 1);
    }

    /** Terms 2: ADDS "without a TEXT 0", WORTH "without that of n", which is held, too. */
    private static void withoutAText() {
        RingChoir x = new RingChoir();
        for (int v : new int[] {0, 1, -1, 12, LEAST, MOST}) {
            due("ADDS", x.law(0, v, v, v, v), 0);
        }
        int[] told = {0, 1, -1, 998, 999, 1000, -998, -999, -1000, LEAST, MOST};
        int[] held = {0, 1, -1, 998, 999, 999, -998, -999, -999, -999, 999};
        for (int i = 0; i < told.length; i++) {
            due("WORTH of " + told[i], x.law(1, told[i], 5, 5, 5), held[i]);
        }
    }

    /** Terms 2: WORTH is "held within -999 to 999". */
    private static void worthIsHeld() {
        RingChoir x = new RingChoir();
        Edges.read(x, 1, "n+k");
        int[] told = {0, 998, 999, 1000, -998, -999, -1000, LEAST, MOST};
        int[] held = {0, 998, 999, 999, -998, -999, -999, -999, 999};
        for (int i = 0; i < told.length; i++) {
            due("WORTH of " + told[i], x.law(1, told[i], 0, 0, 0), held[i]);
        }
        due("wraps first", x.law(1, MOST, 1, 0, 0), -999);
        due("within is as it is", x.law(1, MOST, -MOST + 5, 0, 0), 5);
        Edges.read(x, 0, "l");
        due("ADDS isn't held", x.law(0, 1000, 0, 0, 0), 1000);
        due("ADDS isn't held", x.law(0, LEAST, 0, 0, 0), LEAST);
    }

    // ---- promises 11 to 13

    /** Promise 11: "The n lowest bytes (1 .. 8) .. BEYOND", ahead of "FULL". */
    private static void feedBeyond() {
        Edges.outside("11 n", BEYOND, 1, 8, (x, v) -> x.feed('l', v), Edges.SCENES);
        Edges.outside("11 n, a word of -1", BEYOND, 1, 8, (x, v) -> x.feed(-1L, v), Edges.SCENES);
    }

    /** Promise 11: "FULL"; Terms 2: "THE TAPE (bytes, at most 50)". */
    private static void feedFull() {
        for (int there = 0; there <= 50; there++) {
            for (int n = 1; n <= 8; n++) {
                RingChoir x = tape(there);
                boolean full = there + n > 50;
                due("11 " + n + " to " + there, x.feed(0, n), full ? FULL : there + n);
                due("11 how many there are", x.count(4), full ? there : there + n);
            }
        }
        for (int n = 1; n <= 8; n++) {
            int of = n;
            Edges.refused("11 " + n + " more than 50", Edges.CROWD, FULL, x -> x.feed('l', of));
            int room = n - 1;
            Edges.Scene less = new Edges.Scene("room for " + room, 7, 0, () -> tape(50 - room));
            Edges.refused("11 one too many", less, FULL, x -> x.feed('l', of));
        }
    }

    /** So many bytes that a TEXT could go on behind them. */
    private static RingChoir tape(int there) {
        RingChoir x = new RingChoir();
        for (int i = 0; i < there; i++) {
            x.feed(i % 2 == 0 ? 'l' : '+', 1);
        }
        return x;
    }

    /** Promise 11: "the lowest first": of the smallest and the largest number of bytes, and of words below 0. */
    private static void feedBytes() {
        RingChoir x = new RingChoir();
        x.feed(0x2B2B2B2B2B2B2B31L, 1);
        due("11 the lowest alone", x.text(0), 1);
        due("11 the lowest alone", x.law(0, 0, 0, 0, 0), 1);
        x.feed(0x382D372B362A3535L, 8);
        due("11 all eight: 55*6+7-8", x.text(0), 1);
        due("11 all eight", x.law(0, 0, 0, 0, 0), 329);
        x.feed(0xFF2D372B362A3535L, 7);
        due("11 seven of a word below 0", x.text(0), -17);
        x.feed(0xFF2D372B362A3535L, 8);
        due("11 the highest byte, 255, isn't -1", x.text(0), -17);
        x.feed(-1L, 8);
        due("11 -1", x.text(0), -10);
        x.feed(Long.MIN_VALUE | 'k', 1);
        due("11 the smallest word, but k", x.text(1), 1);
        x.feed(Long.MAX_VALUE, 8);
        due("11 the largest word", x.count(4), 8);
    }

    /** Promise 12: "a USE (0, 1) .. BEYOND (THE TAPE stays)". */
    private static void textBeyond() {
        Edges.outside("12 use", BEYOND, 0, 1, RingChoir::text, Edges.SCENES);
        RingChoir x = Edges.CROWD.make();
        due("12 use 2", x.text(2), BEYOND);
        due("12 50 stay", x.count(4), 50);
        due("12 as they were", x.text(0), 1);
    }

    /** Promise 12: "THE TAPE, which is empty then, is the TEXT of a USE, in place of one ahead: 1". */
    private static void textTaken() {
        for (int use = 0; use < 2; use++) {
            RingChoir x = new RingChoir();
            due("12 the smallest", Edges.read(x, use, "4"), 1);
            due("12 the smallest", x.law(use, 0, 0, 0, 0), 4);
            due("12 empty then", x.count(4), 0);
            due("12 in its place", Edges.read(x, use, "k"), 1);
            due("12 in its place", use == 0 ? x.law(0, 0, 0, 0, 7) : x.law(1, 0, 7, 0, 0), 7);
            due("12 the other is as it was", x.law(1 - use, 3, 0, 0, 0), use == 0 ? 3 : 0);
        }
        RingChoir full = Edges.CROWD.make();
        due("12 50 bytes", full.text(0), 1);
        due("12 empty then", full.count(4), 0);
        due("12 room again", full.feed(0, 8), 8);
    }

    /** Promise 12: "-10 less the FAULT (no ERROR; the one ahead stays)", from -10 to -60. */
    private static void textFault() {
        for (int use = 0; use < 2; use++) {
            RingChoir x = new RingChoir();
            due("12 none at all", x.text(use), -10);
            due("12 still none", x.law(use, 5, 5, 5, 5), use == 0 ? 0 : 5);
            Edges.read(x, use, "k+1");
            due("12 none at all", x.text(use), -10);
            due("12 the first", Edges.read(x, use, ")"), -10);
            due("12 empty then, too", x.count(4), 0);
            due("12 the second", Edges.read(x, use, "k)"), -11);
            String most = "kk+k+k+k+k+k+k+k+k+k+k+k+k+k+k+k+k+k+k+k+k+k+k+k+k".substring(1) + "+";
            due("12 50 bytes that end too early", Edges.read(x, use, most), -60);
            due("12 empty then, too", x.count(4), 0);
            due("12 the one ahead stays", x.law(use, 5, 5, 5, 5), 6);
            for (int k = 1; k <= 5; k++) {
                due("12 no ERROR", x.told(k), 0);
            }
        }
    }

    /** Promise 13: "BEYOND": a USE (0, 1). */
    private static void lawBeyond() {
        Edges.outside("13 use", BEYOND, 0, 1, (x, v) -> x.law(v, 1, 2, 3, 4), Edges.SCENES);
    }

    /** Promise 13: "with its NAMES in order as a, b, c, d": any ints. */
    private static void lawNames() {
        String names = "lsmk";
        int[] told = {LEAST, MOST, -1000000001, 0};
        for (int i = 0; i < 4; i++) {
            RingChoir x = new RingChoir();
            Edges.read(x, 0, names.substring(i, i + 1));
            due("13 " + names.charAt(i), x.law(0, told[0], told[1], told[2], told[3]), told[i]);
            due("13 an answer like an ERROR's isn't counted", x.told(1), 0);
        }
        RingChoir y = new RingChoir();
        Edges.read(y, 1, "k");
        due("13 the second of WORTH", y.law(1, 1, 22, 3, 4), 22);
        Edges.read(y, 1, "n");
        due("13 the first of WORTH", y.law(1, 1, 22, 3, 4), 1);
        Edges.asked("13 changes nothing", Edges.SOME, 2 - 1 * 3, x -> x.law(0, 1, 2, 3, 4));
    }

    // ---- promises 14 and 15

    /** One singer, who sings 3, at a bar that 512 calls don't reach; the class goes on there, too. */
    private static RingChoir atBar(int bar) {
        RingChoir x = Edges.sung(Edges.choir(7, 0), 3);
        int left = bar;
        while (left > 0) {
            int n = Math.min(500, left);
            x.bars(n);
            left -= n;
        }
        return x;
    }

    /** Promise 14: "n (1 to 500) BARS .. BEYOND: n". */
    private static void barsBeyond() {
        Edges.outside("14 n", BEYOND, 1, 500, RingChoir::bars, Edges.SCENES);
    }

    /** Promise 14: "n (1 to 500) BARS go by: BAR", with no SINGERS, too. */
    private static void barsTaken() {
        RingChoir none = new RingChoir();
        due("14 the smallest", none.bars(1), 1);
        due("14 the largest", none.bars(500), 501);
        RingChoir x = Edges.sung(Edges.choir(7, 0, 0, 0), 1, 2, 3);
        due("14 the largest", x.bars(500), 500);
        due("14 500 are 2 of 3", x.state(), 2 + 3 * 7 + 49);
        due("14 the smallest", x.bars(1), 501);
        due("14 501 are 0 of 3", x.state(), 1 + 2 * 7 + 3 * 49);
    }

    /** Promise 14: "STATE: it would be above 999999", behind "BEYOND: n"; Terms 1: "BAR (0 to 999999)". */
    private static void barsState() {
        Edges.Scene last = new Edges.Scene("BAR 999999", 7, 1, () -> atBar(LAST_BAR));
        for (int n : new int[] {1, 2, 499, 500}) {
            Edges.refused("14 above the last", last, STATE, x -> x.bars(n));
            Edges.refused("15 above the last", last, STATE, x -> x.loose(n, 100));
        }
        for (int n : new int[] {0, -1, 501, LEAST, MOST}) {
            Edges.refused("14 n ahead of STATE", last, BEYOND, x -> x.bars(n));
            Edges.refused("15 n ahead of STATE", last, BEYOND, x -> x.loose(n, 0));
        }
        Edges.refused("15 how loose ahead of STATE", last, BEYOND, x -> x.loose(1, 101));
        Edges.Scene near = new Edges.Scene("BAR 999500", 7, 1, () -> atBar(999500));
        Edges.refused("14 one above the last", near, STATE, x -> x.bars(500));
        Edges.refused("15 one above the last", near, STATE, x -> x.loose(500, 0));
        due("14 just the last", near.make().bars(499), LAST_BAR);
        due("15 just the last", near.make().loose(499, 0), LAST_BAR);
        RingChoir end = last.make();
        due("14 BAR", end.count(0), LAST_BAR);
        due("16 AHEAD beyond BAR 999999, too", end.far(500, 0), 3);
        due("17 AHEAD beyond BAR 999999, too", end.worths(500), 3);
        due("19 ROUND beyond BAR 999999, too", end.round(1), 1);
        due("27 HEARD beyond BAR 999999, too", end.heard(0, 4, 200), 1);
        due("28 GONE beyond BAR 999999, too", end.gone(0, 4), Edges.NONE);
        due("29 a TUNE beyond BAR 999999, too", Edges.laid(end, 0, 8, 3, 3, 3).tune(0), 0);
        due("39 told", end.tell(3), 1);
        due("40 AHEAD beyond BAR 999999, too", end.check(0), 0);
        due("37 the last BAR is kept", end.image(), 1);
        due("38 the last BAR comes back", end.restore(), LAST_BAR);
    }

    /** Promise 15: "n (1 to 500) LOOSE BARS (loose 0 to 100) .. BEYOND", ahead of "STATE". */
    private static void looseBeyond() {
        Edges.outside("15 n", BEYOND, 1, 500, (x, v) -> x.loose(v, 50), Edges.SCENES);
        Edges.outside("15 loose", BEYOND, 0, 100, (x, v) -> x.loose(1, v), Edges.SCENES);
        Edges.outside("15 both", BEYOND, 0, 100, (x, v) -> x.loose(v < 0 ? v : 501, v), Edges.SCENES);
    }

    /** Promise 15: "STATE: likewise, or there are no SINGERS". */
    private static void looseState() {
        for (int n : new int[] {1, 500}) {
            Edges.refused("15 no SINGERS, 0", Edges.EMPTY, STATE, x -> x.loose(n, 0));
            Edges.refused("15 no SINGERS, 100", Edges.EMPTY, STATE, x -> x.loose(n, 100));
        }
        due("15 one singer", Edges.choir(7, 0).loose(1, 0), 1);
        due("15 the largest", Edges.choir(7, 0).loose(500, 100), 500);
    }

    /** Terms 3: "if one more draw's rest by 100 is below how loose one is": just below, at, above each rest. */
    private static void howLoose() {
        for (int seed : new int[] {0, 1, -1, 5, 77, LEAST, MOST}) {
            int first = seed * 1103515245 + 12345;
            int second = first * 1103515245 + 12345;
            int who = (first >>> 8) % 3;
            int rest = (second >>> 8) % 100;
            for (int loose : new int[] {0, rest, rest + 1, 100}) {
                RingChoir x = Edges.choir(7, 0, 0, 0);
                x.seed(seed);
                due("15 BAR", x.loose(1, loose), 1);
                due("15 both draws are made", x.count(7), second);
                for (int i = 0; i < 3; i++) {
                    due("15 seed " + seed + ", loose " + loose, x.ofSinger(i, 2), i == who && rest < loose ? 1 : 0);
                }
            }
        }
    }

    /** Terms 3: "sings a NOTE more (COUNTED ROUND)": N less 1 and one more is silence. */
    private static void looseCountedRound() {
        for (int n = 2; n <= 12; n++) {
            RingChoir x = Edges.sung(Edges.choir(n, 0), n - 1);
            due("15 one bar", x.loose(1, 100), 1);
            due("15 N is 0", x.state(), 0);
            due("15 all the rest", x.loose(n - 1, 100), n);
            due("15 N less 1", x.state(), n - 1);
            RingChoir tight = Edges.sung(Edges.choir(n, 0), n - 1);
            tight.loose(500, 0);
            due("15 never with 0", tight.state(), n - 1);
        }
    }
}
