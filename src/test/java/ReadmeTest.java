import java.io.IOException;
import java.lang.reflect.Method;
import java.lang.reflect.Modifier;
import java.nio.file.DirectoryStream;
import java.nio.file.Files;
import java.nio.file.Path;
import java.util.List;
import java.util.Set;
import java.util.TreeSet;
import java.util.regex.Matcher;
import java.util.regex.Pattern;

/**
 * The calls that README.md shows are read from it and made, so that it cannot
 * name an answer that does not hold. It is started in the project's directory.
 */
final class ReadmeTest {
    private static final Pattern MAKES = Pattern.compile("StageShares shares = new StageShares\\((-?\\d+)\\);");
    private static final Pattern CALLS = Pattern.compile("shares\\.(\\w+)\\(([^()]*)\\);(?:\\s+// ([-\\w]+)(?:: .+)?)?");
    private static final Due DUE = new Due("ReadmeTest");

    private final Set<String> shown = new TreeSet<>();
    private StageShares shares = null;

    public static void main(String[] args) throws Exception {
        List<String> readme = Files.readAllLines(Path.of("README.md"));
        new ReadmeTest().followExample(readme);
        everyTestIsNamed(readme);
        DUE.end();
    }

    private void followExample(List<String> readme) throws ReflectiveOperationException {
        boolean isInside = false;
        for (String row : readme) {
            if (row.startsWith("```")) {
                isInside = row.equals("```java");
            } else if (isInside && !row.isEmpty()) {
                follow(row);
            }
        }
        for (Method method : StageShares.class.getDeclaredMethods()) {
            if (Modifier.isPublic(method.getModifiers())) {
                DUE.is("README.md shows " + method.getName(), shown.contains(method.getName()) ? 1 : 0, 1);
            }
        }
    }

    private void follow(String row) throws ReflectiveOperationException {
        Matcher makes = MAKES.matcher(row);
        Matcher calls = CALLS.matcher(row);
        if (makes.matches()) {
            shares = new StageShares(Integer.parseInt(makes.group(1)));
        } else if (shares != null && calls.matches()) {
            call(row, calls.group(1), calls.group(2), calls.group(3));
        } else {
            DUE.is("README.md has a row that is no call: " + row, 1, 0);
        }
    }

    private void call(String row, String name, String arguments, String answer) throws ReflectiveOperationException {
        shown.add(name);
        Method method = methodNamed(name);
        Object got = method.invoke(shares, valuesOf(arguments, method.getParameterTypes()));
        if (method.getReturnType() == void.class) {
            DUE.is(row + " names an answer", answer == null ? 0 : 1, 0);
        } else if (answer == null) {
            DUE.is(row + " names no answer", 1, 0);
        } else {
            DUE.is(row, ((Number) got).longValue(), answerOf(answer));
        }
    }

    private static Method methodNamed(String name) throws NoSuchMethodException {
        for (Method method : StageShares.class.getMethods()) {
            if (method.getName().equals(name)) return method;
        }
        throw new NoSuchMethodException(name);
    }

    private static Object[] valuesOf(String arguments, Class<?>[] types) {
        String[] texts = arguments.isEmpty() ? new String[0] : arguments.split(", ");
        Object[] values = new Object[texts.length];
        for (int i = 0; i < texts.length; i++) {
            if (types[i] == boolean.class) values[i] = texts[i].equals("true");
            else if (types[i] == long.class) values[i] = Long.parseLong(texts[i]);
            else values[i] = Integer.parseInt(texts[i]);
        }
        return values;
    }

    private static long answerOf(String text) throws ReflectiveOperationException {
        return Character.isUpperCase(text.charAt(0))
                ? StageShares.class.getField(text).getInt(null)
                : Long.parseLong(text);
    }

    private static void everyTestIsNamed(List<String> readme) throws IOException {
        try (DirectoryStream<Path> tests = Files.newDirectoryStream(Path.of("src/test/java"), "*Test.java")) {
            for (Path test : tests) {
                String name = test.getFileName().toString().replace(".java", "");
                boolean isNamed = readme.stream().anyMatch(row -> row.startsWith("| `" + name + "` |"));
                DUE.is("README.md names " + name, isNamed ? 1 : 0, 1);
            }
        }
    }
}
