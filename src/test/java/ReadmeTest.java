import java.io.IOException;
import java.lang.reflect.Method;
import java.lang.reflect.Modifier;
import java.nio.file.Files;
import java.nio.file.Path;
import java.util.List;
import java.util.Set;
import java.util.TreeSet;
import java.util.regex.Matcher;
import java.util.regex.Pattern;
import java.util.stream.Collectors;
import java.util.stream.Stream;

/** README.md tells what is so: its example's answers, every call, and every test. Run where README.md is. */
final class ReadmeTest {
    private static final Check check = new Check("ReadmeTest");

    private static final Pattern EXAMPLE = Pattern.compile("(?s)```java\n(.*?)```");
    /** A call and the answer that stands behind it. */
    private static final Pattern CALL = Pattern.compile("x\\.(\\w+)\\((.*?)\\); +// (-?[0-9.]+)(?: .*)?");
    private static final Pattern CALL_ROW = Pattern.compile("(?m)^\\| `(\\w+)\\(([^)]*)\\)` \\|");
    private static final Pattern TEST_ROW = Pattern.compile("(?m)^\\| (\\w+Test) \\|");

    public static void main(String[] args) throws IOException, ReflectiveOperationException {
        String readme = Files.readString(Path.of("README.md"));
        exampleAnswers(readme);
        everyCallIsTold(readme);
        everyTestIsTold(readme);
        check.end();
    }

    private static void exampleAnswers(String readme) throws ReflectiveOperationException {
        Matcher example = EXAMPLE.matcher(readme);
        check.isTrue("README.md has no example", example.find());
        CaptainTides x = new CaptainTides();
        int calls = 0;
        for (String line : example.group(1).split("\n")) {
            if (line.startsWith("x.")) {
                Matcher call = CALL.matcher(line);
                boolean isCall = call.matches();
                check.isTrue("no call with an answer: " + line, isCall);
                if (isCall) {
                    check.isTrue("it answers otherwise: " + line, call.group(3).equals(answer(x, call)));
                    calls++;
                }
            }
        }
        check.isTrue("the example has " + calls + " calls", calls > 20);
    }

    private static String answer(CaptainTides x, Matcher call) throws ReflectiveOperationException {
        String[] written = call.group(2).isEmpty() ? new String[0] : call.group(2).split(", ");
        Object[] values = new Object[written.length];
        for (int i = 0; i < written.length; i++) {
            boolean isSign = written[i].startsWith("'");
            values[i] = isSign ? (Object) written[i].charAt(1) : (Object) Integer.valueOf(written[i]);
        }
        return String.valueOf(methodOf(call.group(1)).invoke(x, values));
    }

    private static Method methodOf(String name) throws NoSuchMethodException {
        for (Method method : CaptainTides.class.getDeclaredMethods()) {
            if (Modifier.isPublic(method.getModifiers()) && method.getName().equals(name)) {
                return method;
            }
        }
        throw new NoSuchMethodException(name);
    }

    private static void everyCallIsTold(String readme) {
        Set<String> told = new TreeSet<>();
        Matcher rows = CALL_ROW.matcher(readme);
        while (rows.find()) {
            int arguments = rows.group(2).isEmpty() ? 0 : rows.group(2).split(", ").length;
            told.add(rows.group(1) + " of " + arguments);
        }
        Set<String> due = new TreeSet<>();
        for (Method method : CaptainTides.class.getDeclaredMethods()) {
            if (Modifier.isPublic(method.getModifiers())) {
                due.add(method.getName() + " of " + method.getParameterCount());
            }
        }
        check.isTrue("told are " + told + ", due are " + due, told.equals(due));
    }

    private static void everyTestIsTold(String readme) throws IOException {
        Set<String> told = new TreeSet<>();
        Matcher rows = TEST_ROW.matcher(readme);
        while (rows.find()) {
            told.add(rows.group(1));
        }
        try (Stream<Path> files = Files.list(Path.of("src/test/java"))) {
            List<String> due = files.map(file -> file.getFileName().toString())
                    .filter(name -> name.endsWith("Test.java"))
                    .map(name -> name.substring(0, name.length() - ".java".length()))
                    .collect(Collectors.toList());
            check.isTrue("told are " + told + ", due are " + due, told.equals(new TreeSet<>(due)));
        }
    }
}
