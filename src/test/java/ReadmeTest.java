import java.lang.reflect.Method;
import java.lang.reflect.Modifier;
import java.nio.file.Files;
import java.nio.file.Path;
import java.util.ArrayList;
import java.util.List;
import java.util.regex.Matcher;
import java.util.regex.Pattern;

/** README.md: its lines with an answer are made as calls of one object, and it names all of the face. */
public final class ReadmeTest {
    private static final Pattern ANSWERED = Pattern.compile("x\\.(\\w+)\\((.*?)\\);\\s+// (-?\\d+)(:.*)?");
    private static final Pattern FED = Pattern.compile("for \\(char sign : \"(.*)\"\\.toCharArray\\(\\)\\) x\\.feed\\(sign\\);");

    private static int wrong = 0;

    private static void fail(String what) {
        wrong++;
        System.out.println(what);
    }

    private static long number(String word) {
        return word.startsWith("0b") ? Long.parseLong(word.substring(2), 2) : Long.parseLong(word);
    }

    private static long call(TypesInside x, String name, String told) throws Exception {
        List<Long> numbers = new ArrayList<>();
        for (String word : told.isEmpty() ? new String[0] : told.split(", ")) {
            numbers.add(number(word));
        }
        for (Method method : TypesInside.class.getDeclaredMethods()) {
            if (Modifier.isPublic(method.getModifiers()) && method.getName().equals(name)) {
                Object[] arguments = new Object[numbers.size()];
                for (int i = 0; i < arguments.length; i++) {
                    boolean whole = method.getParameterTypes()[i] == long.class;
                    arguments[i] = whole ? (Object) numbers.get(i) : (Object) Math.toIntExact(numbers.get(i));
                }
                return ((Number) method.invoke(x, arguments)).longValue();
            }
        }
        throw new IllegalArgumentException("no call " + name);
    }

    /** Every line of the block of Java must be one that is known here, so that none is left untried. */
    private static int example(String block) throws Exception {
        TypesInside x = new TypesInside();
        int answers = 0;
        for (String line : block.split("\n")) {
            Matcher answered = ANSWERED.matcher(line);
            Matcher fed = FED.matcher(line);
            if (answered.matches()) {
                long got = call(x, answered.group(1), answered.group(2));
                if (got != Long.parseLong(answered.group(3))) {
                    fail("README.md: " + line + " answered " + got);
                }
                answers++;
            } else if (fed.matches()) {
                fed.group(1).chars().forEach(x::feed);
            } else if (!line.isBlank() && !line.equals("TypesInside x = new TypesInside();")) {
                fail("README.md: a line that isn't tried: " + line);
            }
        }
        return answers;
    }

    private static void names(String page) throws Exception {
        for (Method method : TypesInside.class.getDeclaredMethods()) {
            if (Modifier.isPublic(method.getModifiers())) {
                Matcher row = Pattern.compile("\\| `" + method.getName() + "\\((.*?)\\)` \\|").matcher(page);
                if (!row.find()) {
                    fail("README.md: no row for " + method.getName());
                } else if ((row.group(1).isEmpty() ? 0 : row.group(1).split(", ").length) != method.getParameterCount()) {
                    fail("README.md: other arguments of " + method.getName());
                }
            }
        }
        for (String name : new String[] {"NONE", "BAD", "STATE", "FULL"}) {
            int value = TypesInside.class.getField(name).getInt(null);
            if (!page.contains("| " + value + " | `" + name + "` |")) {
                fail("README.md: no row for " + name);
            }
        }
        if (!page.contains("| `Long.MIN_VALUE` | `NO` |")) {
            fail("README.md: no row for NO");
        }
    }

    public static void main(String[] args) throws Exception {
        String page = Files.readString(Path.of("README.md"));
        Matcher block = Pattern.compile("```java\n(.*?)```", Pattern.DOTALL).matcher(page);
        int answers = 0;
        while (block.find()) {
            answers += example(block.group(1));
        }
        if (answers == 0) {
            fail("README.md: no answers");
        }
        names(page);
        System.out.println(wrong == 0 ? answers + " answers of README.md hold" : wrong + " lines do not hold");
        if (wrong != 0) {
            System.exit(1);
        }
    }
}
