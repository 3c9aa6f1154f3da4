import java.lang.management.ManagementFactory;
import java.lang.reflect.Constructor;
import java.lang.reflect.Field;
import java.lang.reflect.Method;
import java.lang.reflect.Modifier;
import java.nio.file.Files;
import java.nio.file.Path;
import java.util.Arrays;
import java.util.HashSet;
import java.util.Set;
import java.util.TreeSet;
import java.util.regex.Matcher;
import java.util.regex.Pattern;

/** The face as the document's code block has it, what LANGUAGE.md keeps out of the source, and how much is made. */
public final class RulesTest {
    private static final String FACE = """
            public static final int NONE = -1, BAD = -2, STATE = -3, FULL = -4;
            public static final long NO = Long.MIN_VALUE;
            public TypesInside();
            public int type(int i);
            public int of(int type, int what);
            public int in(int m, int l);
            public long choices(int a, int b, int part);
            public long subgroups(int l, int m, int part);
            public long hall(int l, int m, int n, int part);
            public long whole(int type, int what, int part);
            public long value(int type, int what, int prime);
            public int group(int type, int prime);
            public int sum(int one, int other);
            public int times(int element, int k);
            public int order(int element);
            public int figure(int element, int i);
            public long span(long set);
            public long meet(long one, long other);
            public int told(long set, int what);
            public long list(int i);
            public int listed(int m, int n);
            public long share(int m);
            public int thousandths(int m);
            public long weight(int type, int prime, int k);
            public long weights(int size, int prime, int k);
            public int mean();
            public int feed(int sign);
            public int read();
            public int term(int i, int what);
            public long coefficient(int i, int k);
            public int shelf(int shelf, int sort, int n);
            public int put(int shelf, int i, int type);
            public int get(int shelf, int i);
            public int move(int shelf, int i, int other, int j, int n);
            public int all(int shelf, int type);
            public int image();
            public int back();
            public int count(int what);
            """;

    private static int wrong = 0;

    private static void due(String what, Object got, Object want) {
        if (!got.equals(want)) {
            wrong++;
            System.out.println(what + ": " + got + ", due is " + want);
        }
    }

    /** As return type, name, types of the arguments. */
    private static Set<String> facesMethods() {
        Set<String> made = new TreeSet<>();
        Matcher line = Pattern.compile("public (int|long) (\\w+)\\((.*)\\);").matcher(FACE);
        while (line.find()) {
            String types = line.group(3).replaceAll("(int|long) \\w+", "$1").replace(" ", "");
            made.add(line.group(1) + " " + line.group(2) + "(" + types + ")");
        }
        return made;
    }

    private static void face() {
        Class<?> face = TypesInside.class;
        due("public and final", face.getModifiers(), Modifier.PUBLIC | Modifier.FINAL);
        Set<String> methods = new TreeSet<>();
        Set<String> names = new HashSet<>();
        for (Method method : face.getDeclaredMethods()) {
            if (!Modifier.isPrivate(method.getModifiers())) {
                String types = String.join(",", Arrays.stream(method.getParameterTypes()).map(Class::getName).toList());
                methods.add(method.getReturnType() + " " + method.getName() + "(" + types + ")");
                names.add(method.getName());
                due(method.getName() + " is public", method.getModifiers(), Modifier.PUBLIC);
            }
        }
        due("methods", methods, facesMethods());
        for (Method method : face.getDeclaredMethods()) {
            boolean hidden = Modifier.isPrivate(method.getModifiers());
            due("a private " + method.getName(), hidden && names.contains(method.getName()), false);
        }
        for (Constructor<?> constructor : face.getDeclaredConstructors()) {
            due("the constructor", constructor.toString(), "public TypesInside()");
        }
        Set<String> constants = new TreeSet<>();
        for (Field field : face.getDeclaredFields()) {
            if (!Modifier.isPrivate(field.getModifiers())) {
                constants.add(field.toString());
            }
        }
        due("constants", constants, new TreeSet<>(Set.of("public static final int TypesInside.NONE",
                "public static final int TypesInside.BAD", "public static final int TypesInside.STATE",
                "public static final int TypesInside.FULL", "public static final long TypesInside.NO")));
        due("NONE", TypesInside.NONE, -1);
        due("BAD", TypesInside.BAD, -2);
        due("STATE", TypesInside.STATE, -3);
        due("FULL", TypesInside.FULL, -4);
        due("NO", TypesInside.NO, Long.MIN_VALUE);
        for (Class<?> inside : face.getDeclaredClasses()) {
            due(inside + " is static", Modifier.isStatic(inside.getModifiers()), true);
            due(inside + " is hidden", Modifier.isPublic(inside.getModifiers()), false);
            for (Field field : inside.getDeclaredFields()) {
                boolean changing = Modifier.isStatic(field.getModifiers()) && !Modifier.isFinal(field.getModifiers());
                due("static and not final: " + field, changing, false);
            }
            for (Method method : inside.getDeclaredMethods()) {
                due("a name of the face: " + method, names.contains(method.getName()), false);
                due("more than seven arguments: " + method, method.getParameterCount() > 7, false);
            }
        }
    }

    private static void source() throws Exception {
        String source = Files.readString(Path.of("src/main/java/TypesInside.java"));
        due("imports", source.replaceAll("(?s).*?(import [\\w.]+;).*", "$1"), "import java.util.Arrays;");
        due("one import", source.split("import ").length, 2);
        String code = source.replaceAll("(?s)/\\*.*?\\*/", "").replaceAll("//.*", "");
        for (String word : new String[] {
            "catch", "try", "throw", "->", "::", "synchronized", "assert", "finally", "Exact", "hashCode", "toString",
            "equals", "String", "System.out", "System.nano", "System.current", "Random", "Thread", "doubleTo", "floatTo",
            "package", "\"", "while", "instanceof", "float[]", "this."}) {
            due("'" + word + "' in the source", code.contains(word), false);
        }
        Matcher library = Pattern.compile("\\b(Math|Integer|Long|Float|Double|System|Arrays)\\.(\\w+)").matcher(code);
        Set<String> used = new TreeSet<>();
        while (library.find()) {
            used.add(library.group());
        }
        used.removeAll(Set.of("Arrays.fill", "System.arraycopy", "Math.min", "Math.max", "Math.floorMod",
                "Long.bitCount", "Long.MIN_VALUE"));
        due("other library", used.toString(), "[]");
        due("a library's constant beside NO's own", code.split("_VALUE").length, 2);
        methodLengths(code);
    }

    private static void methodLengths(String code) {
        String[] lines = code.split("\n");
        int from = -1;
        for (int i = 0; i < lines.length; i++) {
            if (lines[i].matches("( {4}| {8})\\w.*\\) \\{")) {
                from = i;
            } else if (from >= 0 && lines[i].matches("( {4}| {8})\\}") ) {
                due("lines of " + lines[from].trim(), i - from + 1 > 50, false);
                from = -1;
            }
        }
    }

    /** What one object and its calls make must be far below the room's 7.3 million elements. */
    private static void room() {
        com.sun.management.ThreadMXBean threads =
                (com.sun.management.ThreadMXBean) ManagementFactory.getThreadMXBean();
        long self = Thread.currentThread().getId();
        callAll(new TypesInside(), 16);
        long before = threads.getThreadAllocatedBytes(self);
        TypesInside made = new TypesInside();
        long between = threads.getThreadAllocatedBytes(self);
        callAll(made, 16);
        long after = threads.getThreadAllocatedBytes(self);
        due("a new object is small: " + (between - before), between - before < 200_000, true);
        due("calls make next to nothing: " + (after - between), after - between < 20_000, true);
    }

    private static long callAll(TypesInside x, int rounds) {
        long all = 0;
        for (int i = 0; i < rounds; i++) {
            all += x.hall(221, 21, 2, i) + x.whole(11111, i % 3, i) + x.value(2111, i % 3, 7);
            all += x.group(i % 2 == 0 ? 11111 : 21, 2) + x.list(5) + x.listed(1, -1) + x.share(11) + x.mean();
            all += x.weight(221, 3, 20) + x.weights(5, 2, 20) + x.span(6) + x.told(3, 1);
            all += x.feed('[') + x.feed('1') + x.feed(']') + x.feed('*') + x.feed('[') + x.feed(']') + x.read();
            all += x.shelf(1, 3, 20) + x.all(1, 11111) + x.move(1, 0, 1, 2, 5) + x.image() + x.back();
        }
        return all;
    }

    public static void main(String[] args) throws Exception {
        face();
        source();
        room();
        System.out.println(wrong == 0 ? "the rules are kept" : wrong + " rules are not kept");
        if (wrong != 0) {
            System.exit(1);
        }
    }
}
