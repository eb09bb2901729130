import java.io.IOException;
import java.lang.reflect.Method;
import java.lang.reflect.Modifier;
import java.nio.file.DirectoryStream;
import java.nio.file.Files;
import java.nio.file.Path;
import java.util.List;
import java.util.regex.Matcher;
import java.util.regex.Pattern;

/** What README.md shows as an answer is what the class answers. */
public final class ReadmeTest {
    private static final Check check = new Check("ReadmeTest");

    private static final String ANSWER = "(-?\\d+|UNKNOWN|OUTSIDE|STATE|FULL|NONE)\\b";
    private static final Pattern CALL = Pattern.compile("x\\.(\\w+)\\(([^()]*)\\);\\s*// " + ANSWER + "(:.*)?");
    private static final Pattern TEXT = Pattern.compile("\\| `(L\\w*)` \\| " + ANSWER + " \\|.*");
    private static final Pattern CONSTANT = Pattern.compile("\\| `([A-Z]+)` \\| (-\\d+) \\|.*");

    private static BesideBook x;
    private static int calls;
    private static int texts;
    private static int constants;

    public static void main(String[] args) throws Exception {
        List<String> lines = Files.readAllLines(Path.of("README.md"));
        boolean inJava = false;
        for (String line : lines) {
            if (line.startsWith("```")) {
                inJava = line.equals("```java");
            } else if (inJava) {
                codeLine(line);
            } else {
                tableLine(line);
            }
        }
        check.holds("runs of calls are shown", calls > 30);
        check.holds("texts with their faults are shown", texts > 4);
        check.due("all constants are shown", constants, 5);
        allAreNamed(String.join("\n", lines));
        check.end();
    }

    /** A line that is neither a new object nor a call with its answer is one that no test would see. */
    private static void codeLine(String line) throws Exception {
        Matcher call = CALL.matcher(line);
        if (line.equals("BesideBook x = new BesideBook();")) {
            x = new BesideBook();
        } else if (call.matches()) {
            calls++;
            check.due(line, answer(call.group(1), call.group(2)), number(call.group(3)));
        } else {
            check.holds("a call with its answer: " + line, line.isEmpty());
        }
    }

    private static void tableLine(String line) throws Exception {
        Matcher text = TEXT.matcher(line);
        Matcher constant = CONSTANT.matcher(line);
        if (text.matches()) {
            texts++;
            check.due(line, Check.fault(text.group(1)), number(text.group(2)));
        } else if (constant.matches()) {
            constants++;
            check.due(line, number(constant.group(1)), number(constant.group(2)));
        }
    }

    private static long number(String told) throws Exception {
        return Character.isLetter(told.charAt(0)) ? BesideBook.class.getField(told).getInt(null) : Long.parseLong(told);
    }

    private static long answer(String name, String told) throws Exception {
        String[] parts = told.isEmpty() ? new String[0] : told.split(", ");
        for (Method method : BesideBook.class.getMethods()) {
            if (method.getName().equals(name) && method.getParameterCount() == parts.length) {
                return ((Number) method.invoke(x, values(method.getParameterTypes(), parts))).longValue();
            }
        }
        throw new IllegalStateException("there is no " + name + "(" + told + ")");
    }

    private static Object[] values(Class<?>[] types, String[] parts) {
        Object[] values = new Object[parts.length];
        for (int i = 0; i < parts.length; i++) {
            if (types[i] == boolean.class) {
                values[i] = parts[i].equals("true");
            } else {
                long value = Long.decode(parts[i].replace("L", ""));
                values[i] = types[i] == long.class ? (Object) value : (Object) Math.toIntExact(value);
            }
        }
        return values;
    }

    private static void allAreNamed(String readme) throws IOException {
        for (Method method : BesideBook.class.getDeclaredMethods()) {
            if (Modifier.isPublic(method.getModifiers())) {
                check.holds(method.getName() + " is named", readme.contains("`" + method.getName() + "`"));
            }
        }
        try (DirectoryStream<Path> tests = Files.newDirectoryStream(Path.of("src/test/java"), "*Test.java")) {
            for (Path test : tests) {
                String name = test.getFileName().toString().replace(".java", "");
                check.holds(name + " is named", readme.contains("`" + name + "`"));
            }
        }
    }
}
