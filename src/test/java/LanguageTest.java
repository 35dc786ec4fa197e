import java.io.IOException;
import java.lang.reflect.Field;
import java.lang.reflect.Method;
import java.lang.reflect.Modifier;
import java.nio.file.Files;
import java.nio.file.Path;
import java.util.ArrayList;
import java.util.Arrays;
import java.util.List;
import java.util.Set;
import java.util.TreeSet;
import java.util.regex.Matcher;
import java.util.regex.Pattern;

/** The rules of LANGUAGE.md that can be seen from the source's text and from the class. Run where src/ is. */
final class LanguageTest {
    private static final Check check = new Check("LanguageTest");
    private static final Path SOURCE = Path.of("src/main/java/CaptainTides.java");

    private static final String[] FACE = {
        "int bestHour(int)", "int bestPhase(int)", "int captain(int, int, int)", "int captainOf(int, int)",
        "int captains()", "int clash(int, int)", "int clearText()", "int count(int)", "int fault()",
        "int hours(int, int)", "int ifSailed(int)", "int keep()", "int level(int, int, int)", "int lot(int)",
        "float made()", "int printed(int, int, int)", "int restore()", "int sail(int)", "int set(int, int)",
        "int truth(int)", "int type(char)", "int undo()", "int uses(int, int)",
    };

    /** What a source without library, exceptions and lambdas does not hold. */
    private static final String[] FOREIGN = {
        "import ", "package ", "->", "::", "try", "catch", "throw", "finally", "synchronized", "assert", "while",
        "do {", "static {", "instanceof", "record ", "enum ", "interface ", "System", "Thread", "List", "Integer.valueOf",
        "Exact(", "toString", "hashCode", "equals", "String", "double", "long ", "null", "protected", "volatile",
        "native", "@", "\"", "yield", "var ",
    };

    public static void main(String[] args) throws IOException {
        String code = withoutComments(Files.readString(SOURCE));
        face();
        for (String foreign : FOREIGN) {
            check.isTrue("the source holds " + foreign, !code.contains(foreign));
        }
        for (Class<?> each : classes()) {
            fields(each);
            methods(each);
        }
        check.isTrue("more than twelve classes", classes().size() <= 12);
        methodLengths(code);
        objectsAreMadeWithTheObject(code);
        check.end();
    }

    private static String withoutComments(String source) {
        return source.replaceAll("(?s)/\\*.*?\\*/", "").replaceAll("//[^\n]*", "");
    }

    private static List<Class<?>> classes() {
        List<Class<?>> classes = new ArrayList<>();
        classes.add(CaptainTides.class);
        classes.addAll(Arrays.asList(CaptainTides.class.getDeclaredClasses()));
        return classes;
    }

    private static void face() {
        Set<String> face = new TreeSet<>();
        for (Method method : CaptainTides.class.getDeclaredMethods()) {
            if (!Modifier.isPrivate(method.getModifiers())) {
                String types = Arrays.toString(method.getParameterTypes());
                face.add(method.getReturnType() + " " + method.getName() + "(" + types.substring(1, types.length() - 1) + ")");
                check.isTrue(method + " is not public alone", method.getModifiers() == Modifier.PUBLIC);
            }
        }
        check.isTrue("the face is " + face, face.equals(new TreeSet<>(Arrays.asList(FACE))));
        Set<String> constants = new TreeSet<>();
        for (Field field : CaptainTides.class.getDeclaredFields()) {
            if (!Modifier.isPrivate(field.getModifiers())) {
                constants.add(field.getName());
                int due = Modifier.PUBLIC | Modifier.STATIC | Modifier.FINAL;
                check.isTrue(field + " is no constant", field.getModifiers() == due && field.getType() == int.class);
            }
        }
        check.isTrue("constants " + constants, constants.equals(Set.of("UNKNOWN", "BAD_VALUE", "FULL", "NONE")));
        check.isTrue("the class is not public and final",
                CaptainTides.class.getModifiers() == (Modifier.PUBLIC | Modifier.FINAL));
        check.due("constructors", CaptainTides.class.getDeclaredConstructors().length, 1);
        check.due("the constructor is public", CaptainTides.class.getConstructors().length, 1);
    }

    private static void fields(Class<?> each) {
        int ofObjects = 0;
        for (Field field : each.getDeclaredFields()) {
            if (Modifier.isStatic(field.getModifiers())) {
                check.isTrue(field + " is not final", Modifier.isFinal(field.getModifiers()));
            } else {
                ofObjects++;
            }
        }
        check.isTrue(each + " has " + ofObjects + " fields", ofObjects <= 20);
        check.isTrue(each + " is not static", each == CaptainTides.class || Modifier.isStatic(each.getModifiers()));
    }

    private static void methods(Class<?> each) {
        Set<String> faceNames = new TreeSet<>();
        for (String method : FACE) {
            faceNames.add(method.substring(method.indexOf(' ') + 1, method.indexOf('(')));
        }
        for (Method method : each.getDeclaredMethods()) {
            check.isTrue(method + " has too many parameters", method.getParameterCount() <= 7);
            boolean isFace = each == CaptainTides.class && Modifier.isPublic(method.getModifiers());
            check.isTrue(method + " bears a name of the face", isFace || !faceNames.contains(method.getName()));
        }
    }

    private static void methodLengths(String code) {
        int methods = 0;
        Matcher heads = Pattern.compile("(?m)^( {4}| {8})[a-z][\\w\\[\\] ]* \\w+\\([^)]*\\) \\{$").matcher(code);
        while (heads.find()) {
            methods++;
            int end = code.indexOf("\n" + heads.group(1) + "}", heads.start());
            long lines = code.substring(heads.start(), end).lines().count() + 1;
            check.isTrue(heads.group() + " has " + lines + " lines", lines <= 60);
        }
        check.isTrue("methods are not found", methods > 60);
    }

    /** Every "new" stands in the initialiser of a field. */
    private static void objectsAreMadeWithTheObject(String code) {
        for (String line : code.split("\n")) {
            if (line.contains("new ")) {
                check.isTrue("an object is made by a call: " + line, line.matches(" {4,8}(private )?final .* = .*;"));
            }
        }
    }
}
