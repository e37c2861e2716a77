import java.io.IOException;
import java.lang.reflect.Method;
import java.nio.file.Files;
import java.nio.file.Path;
import java.util.ArrayList;
import java.util.LinkedHashMap;
import java.util.List;
import java.util.Map;
import java.util.Random;
import java.util.Set;
import java.util.TreeSet;
import java.util.regex.Matcher;
import java.util.regex.Pattern;

/** That README.md is true: what its first choir answers, its rows of calls, and the ERRORS in them. */
public final class ReadmeTest {
    private static final Path README = Path.of("README.md");
    private static final Path DOC = Path.of("../shared/DOC.md");
    private static final String[] ERRORS = {"", "BEYOND", "NONE", "STATE", "FULL", "KIND"};
    private static final int DRAWN = 150;
    private static final int[] FAR = {-1, 4, 5, 6, 7, 8, 9, 11, 12, 13, 40, 41, 60, 61, 100, 200, 500, 501,
        Integer.MIN_VALUE, Integer.MAX_VALUE};

    private static final RingChoir late = new RingChoir();
    private static int wrong = 0;

    public static void main(String[] args) throws Exception {
        String page = Files.readString(README);
        firstChoir(page);
        Map<String, String> rows = rows(page);
        face(rows);
        numbersOfErrors(page);
        for (String call : rows.keySet()) {
            errorsOf(call, rows.get(call));
        }
        System.out.println(wrong == 0 ? "README.md is true" : wrong + " things in README.md are not so");
        if (wrong != 0) {
            System.exit(1);
        }
    }

    private static void due(String what, Object got, Object want) {
        if (!got.equals(want)) {
            wrong++;
            System.out.println(what + ": " + got + ", README.md has " + want);
        }
    }

    private static Method method(String name) {
        for (Method m : RingChoir.class.getDeclaredMethods()) {
            if (m.getName().equals(name)) {
                return m;
            }
        }
        throw new IllegalArgumentException(name);
    }

    private static long answer(RingChoir x, Method m, Object... args) throws ReflectiveOperationException {
        return ((Number) m.invoke(x, args)).longValue();
    }

    /** Each line's answer stands in its remark. */
    private static void firstChoir(String page) throws ReflectiveOperationException {
        Matcher block = Pattern.compile("(?s)```java\n(.*?)```").matcher(page);
        due("a choir in java", block.find(), true);
        String[] lines = block.group(1).split("\n");
        due("its first line", lines[0], "RingChoir x = new RingChoir();");
        RingChoir x = new RingChoir();
        for (int i = 1; i < lines.length; i++) {
            Matcher line = Pattern.compile("x\\.(\\w+)\\((.*?)\\); +// (-?\\d+): .*").matcher(lines[i]);
            due("a call and its answer in " + lines[i], line.matches(), true);
            due(lines[i], answer(x, method(line.group(1)), told(line.group(2))), Long.parseLong(line.group(3)));
        }
    }

    private static Object[] told(String args) {
        List<Object> out = new ArrayList<>();
        for (String arg : args.isEmpty() ? new String[0] : args.split(", ")) {
            if (arg.endsWith("L")) {
                out.add(Long.parseLong(arg.substring(0, arg.length() - 1)));
            } else {
                out.add(Integer.parseInt(arg));
            }
        }
        return out.toArray();
    }

    /** Calls as they stand in the rows, with what stands in their last column. */
    private static Map<String, String> rows(String page) {
        Map<String, String> rows = new LinkedHashMap<>();
        Matcher row = Pattern.compile("(?m)^\\| `(\\w+\\([^)]*\\))` \\|.*\\|([A-Z, ]*)\\|$").matcher(page);
        while (row.find()) {
            due("a row alone of " + row.group(1), rows.put(row.group(1), row.group(2).trim()) == null, true);
        }
        return rows;
    }

    private static void face(Map<String, String> rows) throws IOException {
        List<String> calls = new ArrayList<>();
        Matcher call = Pattern.compile("public (?:int|long) (\\w+\\([^)]*\\));").matcher(Files.readString(DOC));
        while (call.find()) {
            calls.add(call.group(1).replaceAll("(int|long) ", ""));
        }
        due("calls of the document's face", calls, new ArrayList<>(rows.keySet()));
    }

    private static void numbersOfErrors(String page) {
        for (int k = 1; k < ERRORS.length; k++) {
            due("the number of " + ERRORS[k], page.contains("| " + (-1000000000 - k) + " | " + ERRORS[k] + " |"), true);
        }
    }

    /** Drawn calls on unlike objects: just the ERRORS of the row come. */
    private static void errorsOf(String call, String row) throws ReflectiveOperationException {
        Method m = method(call.substring(0, call.indexOf('(')));
        Random random = new Random(1);
        Set<String> came = new TreeSet<>();
        for (Edges.Maker maker : makers()) {
            for (int i = 0; i < DRAWN; i++) {
                RingChoir x = maker.make();
                int[] ahead = told(x);
                answer(x, m, drawn(m, random));
                int[] now = told(x);
                for (int k = 1; k < ERRORS.length; k++) {
                    if (now[k] > ahead[k]) {
                        came.add(ERRORS[k]);
                    }
                }
            }
        }
        Set<String> listed = new TreeSet<>(List.of(row.split(", ")));
        listed.remove("");
        due("ERRORS of " + call, came, listed);
    }

    private static int[] told(RingChoir x) {
        int[] out = new int[ERRORS.length];
        for (int k = 1; k < out.length; k++) {
            out[k] = x.told(k);
        }
        return out;
    }

    private static Object[] drawn(Method m, Random random) {
        Object[] args = new Object[m.getParameterCount()];
        for (int i = 0; i < args.length; i++) {
            int v = random.nextInt(4) == 0 ? FAR[random.nextInt(FAR.length)] : random.nextInt(4);
            v = m.getName().equals("sheet") && i == 1 && random.nextBoolean() ? 8 : v;
            args[i] = m.getParameterTypes()[i] == long.class ? (Object) (long) v : (Object) v;
        }
        return args;
    }

    /** Empty, some, full; one that doesn't come round within 600 bars; one at the last bar. */
    private static Edges.Maker[] makers() {
        return new Edges.Maker[] {Edges.EMPTY::make, Edges.SOME::make, Edges.CROWD::make,
            () -> Edges.sung(Edges.sixHundred(), 1, 0, 1), ReadmeTest::atLastBar};
    }

    /** The same one each time, as the way there is long: its image brings it back. */
    private static RingChoir atLastBar() {
        if (late.count(0) == 0) {
            for (int i = 0; i < 1999; i++) {
                late.bars(500);
            }
            late.bars(499);
            late.singer(0, 0);
            late.image();
        }
        late.restore();
        return late;
    }
}
