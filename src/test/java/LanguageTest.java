import java.io.IOException;
import java.lang.reflect.Array;
import java.lang.reflect.Constructor;
import java.lang.reflect.Field;
import java.lang.reflect.Method;
import java.lang.reflect.Modifier;
import java.nio.file.Files;
import java.nio.file.Path;
import java.util.ArrayList;
import java.util.Arrays;
import java.util.List;
import java.util.Set;
import java.util.TreeSet;
import java.util.regex.Matcher;
import java.util.regex.Pattern;

/** What of ../shared/LANGUAGE.md can be seen from outside: the face, the words, the sizes, the room. */
public final class LanguageTest {
    private static final Path SOURCE = Path.of("src/main/java/RingChoir.java");
    private static final Path DOC = Path.of("../shared/DOC.md");
    private static final String FACE = "notes(int) singer(int,int) ofSinger(int,int) rule(int,int,int) as(int,int) "
        + "net(int,int,int) ring(int) sing(int,int,int) begin(int) feed(long,int) text(int) "
        + "law(int,int,int,int,int) bars(int) loose(int,int) far(int,int) worths(int) state() round(int) "
        + "beginnings(int,int) best(int) before(int) never() rings(int) fewest(int) made(int,int) "
        + "heard(int,int,int) gone(int,int) tune(int) longer(int) seed(int) voice(int,int,int) trace(int) "
        + "sheet(int,int,int) put(int,int,int) move(int,int,int,int,int) image() restore() tell(int) check(int) "
        + "count(int) told(int)";
    /** Some 500 objects of one run are to fit into 7,300,000 fields and elements. */
    private static final int MOST_ROOM = 14000;
    private static int wrong = 0;

    public static void main(String[] args) throws Exception {
        face();
        headings();
        inside();
        words();
        methodLengths();
        madeInConstructorsOnly();
        room();
        System.out.println(wrong == 0 ? "the language is kept" : wrong + " rules are broken");
        if (wrong != 0) {
            System.exit(1);
        }
    }

    private static void must(boolean holds, String what) {
        if (!holds) {
            wrong++;
            System.out.println("broken: " + what);
        }
    }

    private static String signature(Method m) {
        List<String> types = new ArrayList<>();
        for (Class<?> c : m.getParameterTypes()) {
            types.add(c.getName());
        }
        return m.getName() + "(" + String.join(",", types) + ")";
    }

    private static void face() {
        Set<String> due = new TreeSet<>(Arrays.asList(FACE.split(" ")));
        Set<String> there = new TreeSet<>();
        for (Method m : RingChoir.class.getDeclaredMethods()) {
            if (Modifier.isPublic(m.getModifiers())) {
                there.add(signature(m));
                must(!Modifier.isStatic(m.getModifiers()), "1: static " + m);
                must(m.getReturnType() == (m.getName().equals("state") ? long.class : int.class), "1: type of " + m);
            } else {
                must(Modifier.isPrivate(m.getModifiers()), "1: not private: " + m);
            }
        }
        must(due.equals(there), "1: the face is " + there);
        Constructor<?>[] made = RingChoir.class.getDeclaredConstructors();
        must(made.length == 1 && Modifier.isPublic(made[0].getModifiers()) && made[0].getParameterCount() == 0, "1: constructor");
        must(Modifier.isFinal(RingChoir.class.getModifiers()), "1: final");
        for (Field f : RingChoir.class.getDeclaredFields()) {
            must(Modifier.isPrivate(f.getModifiers()), "1: not private: " + f);
        }
    }

    /** The calls stand in the order of the document's face, with its headings ahead of them. */
    private static void headings() throws IOException {
        StringBuilder due = new StringBuilder();
        Matcher told = Pattern.compile("Ahead of the calls (.*) the interface says: (---- .*)\\.").matcher(Files.readString(DOC));
        while (told.find()) {
            due.append(told.group(2)).append(' ').append(told.group(1).replaceAll("[`,]", "")).append(' ');
        }
        StringBuilder there = new StringBuilder();
        Matcher found = Pattern.compile("(?m)^    (?:// (---- .*)|public (?:int|long) (\\w+)\\(.*)$").matcher(Files.readString(SOURCE));
        while (found.find()) {
            there.append(found.group(1) == null ? found.group(2) : found.group(1)).append(' ');
        }
        must(due.length() > 0 && there.toString().startsWith(due.toString()), "the headings: " + there);
    }

    private static void inside() {
        Set<String> names = new TreeSet<>();
        for (String s : FACE.split(" ")) {
            names.add(s.substring(0, s.indexOf('(')));
        }
        List<Class<?>> all = new ArrayList<>(Arrays.asList(RingChoir.class.getDeclaredClasses()));
        must(all.size() + 1 <= 12, "11: classes: " + all.size());
        all.add(RingChoir.class);
        for (Class<?> c : all) {
            must(c == RingChoir.class || Modifier.isStatic(c.getModifiers()), "2: not static: " + c);
            int own = 0;
            for (Field f : c.getDeclaredFields()) {
                boolean constant = Modifier.isStatic(f.getModifiers());
                must(!constant || Modifier.isFinal(f.getModifiers()), "5: not final: " + f);
                own += constant ? 0 : 1;
            }
            must(own <= 20, "11: fields of " + c + ": " + own);
            for (Method m : c.getDeclaredMethods()) {
                must(m.getParameterCount() <= 7, "11: parameters of " + m);
                boolean shown = c == RingChoir.class && Modifier.isPublic(m.getModifiers());
                must(shown || !names.contains(m.getName()), "1: a public name: " + m);
            }
        }
    }

    private static void words() throws IOException {
        String source = Files.readString(SOURCE);
        String code = source.replaceAll("(?s)/\\*.*?\\*/", "").replaceAll("//[^\n]*", "").replaceAll("'.'", "' '");
        String[] refused = {"\\bthrow\\b", "\\btry\\b", "\\bcatch\\b", "\\bsynchronized\\b", "\\bassert\\b", "->", "::",
            "\\bpackage\\b", "Exact\\b", "\\bdouble\\b", "\\bfloat\\b", "\\bstatic\\s*\\{", "\\bprotected\\b", "\\bObject\\b"};
        for (String word : refused) {
            must(!Pattern.compile(word).matcher(code).find(), "6: " + word);
        }
        Matcher imports = Pattern.compile("(?m)^import (.*);").matcher(code);
        while (imports.find()) {
            must(imports.group(1).equals("java.util.Arrays"), "4: import " + imports.group(1));
        }
        Matcher library = Pattern.compile("\\b(Arrays|System|Math|Integer|Long|String)\\.(\\w+)").matcher(code);
        while (library.find()) {
            must(Set.of("fill", "arraycopy", "max", "min").contains(library.group(2)), "4: " + library.group());
        }
        must(source.chars().allMatch(c -> c > 0 && c < 128), "4: signs");
    }

    private static void methodLengths() throws IOException {
        List<String> lines = Files.readAllLines(SOURCE);
        for (int from = 0; from < lines.size(); from++) {
            Matcher opened = Pattern.compile("^( +)(?!class|.*\\bclass\\b)[\\w\\[\\] ]+\\(.*\\) \\{$").matcher(lines.get(from));
            if (opened.find() && !lines.get(from).matches(" +(if|for|while|switch|else|do).*")) {
                int to = from;
                while (!lines.get(to).equals(opened.group(1) + "}")) {
                    to++;
                }
                must(to - from <= 60, "11: long: " + lines.get(from).trim());
            }
        }
    }

    private static void madeInConstructorsOnly() throws IOException {
        Pattern field = Pattern.compile("^ {4}( {4})?(private |final |int)[^(]* = new \\w+(\\(\\)|\\[.*\\]);$");
        for (String line : Files.readAllLines(SOURCE)) {
            boolean makes = Pattern.compile("\\bnew\\b").matcher(line.replaceAll("(//|/?\\*).*", "")).find();
            must(!makes || field.matcher(line).find() || line.contains("private int[] spare = new"), "12: " + line);
        }
    }

    private static void room() throws IllegalAccessException {
        int[] sum = new int[2];
        weigh(new RingChoir(), sum, 0);
        System.out.println("a new object: " + sum[0] + " objects, " + sum[1] + " fields and elements");
        must(sum[1] <= MOST_ROOM, "12: room " + sum[1]);
    }

    private static void weigh(Object o, int[] sum, int deep) throws IllegalAccessException {
        sum[0]++;
        must(deep < 5, "deep");
        if (o.getClass().isArray()) {
            sum[1] += Array.getLength(o);
            for (int i = 0; i < Array.getLength(o) && !o.getClass().getComponentType().isPrimitive(); i++) {
                weigh(Array.get(o, i), sum, deep + 1);
            }
            return;
        }
        for (Field f : o.getClass().getDeclaredFields()) {
            if (!Modifier.isStatic(f.getModifiers())) {
                sum[1]++;
                f.setAccessible(true);
                Object part = f.get(o);
                if (!f.getType().isPrimitive() && part != null && !(part instanceof String)) {
                    weigh(part, sum, deep + 1);
                }
            }
        }
    }
}
