import java.io.IOException;
import java.lang.reflect.Method;
import java.nio.charset.StandardCharsets;
import java.nio.file.Files;
import java.nio.file.Path;
import java.util.ArrayList;
import java.util.List;
import java.util.regex.Matcher;
import java.util.regex.Pattern;
import java.util.stream.Stream;

/** README.md: its examples are called, line by line, and its tables are held against what is there. */
public final class ReadmeTest {
    private static final Path README = Path.of("README.md");
    private static final Pattern MADE = Pattern.compile("SilenceCount house = new SilenceCount\\(\\);");
    private static final Pattern CALL = Pattern.compile("house\\.(\\w+)\\((.*?)\\); +// ([^:]+)(?:: .*)?");
    private static final Pattern CONSTANT = Pattern.compile("`([A-Z]+)` \\((-\\d+)\\)");

    private static SilenceCount house;
    private static int made = 0;
    private static int called = 0;

    public static void main(String[] args) throws IOException, ReflectiveOperationException {
        List<String> lines = Files.readAllLines(README, StandardCharsets.UTF_8);
        for (String line : examples(lines)) {
            example(line);
        }
        Due.is("objects made by the examples", made, 1);
        Due.isTrue("calls of the examples: " + called, called > 20 && called <= 512);
        String text = String.join("\n", lines);
        constants(text);
        callsAreNamed(text);
        testsAreNamed(text);
        Due.close();
    }

    private static List<String> examples(List<String> lines) {
        List<String> found = new ArrayList<>();
        boolean inside = false;
        for (String line : lines) {
            if (line.startsWith("```")) {
                inside = line.equals("```java");
            } else if (inside) {
                found.add(line);
            }
        }
        return found;
    }

    private static void example(String line) throws ReflectiveOperationException {
        if (MADE.matcher(line).matches()) {
            house = new SilenceCount();
            made++;
            return;
        }
        Matcher call = CALL.matcher(line);
        boolean isCall = call.matches();
        Due.isTrue("is a call with its answer: " + line, isCall && house != null);
        if (isCall && house != null) {
            Due.is(line, answer(call.group(1), call.group(2)), sum(call.group(3)));
            called++;
        }
    }

    private static long answer(String name, String written) throws ReflectiveOperationException {
        String[] texts = written.isEmpty() ? new String[0] : written.split(", ");
        Object[] values = new Object[texts.length];
        for (int i = 0; i < texts.length; i++) {
            values[i] = value(texts[i]);
        }
        for (Method method : SilenceCount.class.getMethods()) {
            if (method.getName().equals(name) && method.getParameterCount() == values.length) {
                return ((Number) method.invoke(house, values)).longValue();
            }
        }
        throw new NoSuchMethodException(name);
    }

    private static Object value(String text) {
        if (text.startsWith("'")) {
            return (int) text.charAt(1);
        }
        if (text.equals("true") || text.equals("false")) {
            return text.equals("true");
        }
        return Integer.valueOf(text);
    }

    /** Numbers and names of constants, with + between them. */
    private static long sum(String text) throws ReflectiveOperationException {
        long sum = 0;
        for (String part : text.trim().split(" \\+ ")) {
            boolean isName = Character.isLetter(part.charAt(0));
            sum += isName ? constant(part) : Long.parseLong(part);
        }
        return sum;
    }

    private static long constant(String name) throws ReflectiveOperationException {
        return SilenceCount.class.getField(name).getLong(null);
    }

    private static void constants(String text) throws ReflectiveOperationException {
        Matcher told = CONSTANT.matcher(text);
        int found = 0;
        while (told.find()) {
            Due.is("README: " + told.group(1), Long.parseLong(told.group(2)), constant(told.group(1)));
            found++;
        }
        Due.is("constants that are told with their numbers", found, 6);
    }

    private static void callsAreNamed(String text) {
        for (Method method : SilenceCount.class.getDeclaredMethods()) {
            boolean isHidden = !java.lang.reflect.Modifier.isPublic(method.getModifiers());
            Due.isTrue("README names " + method.getName(), isHidden || text.contains("`" + method.getName() + "`"));
        }
    }

    private static void testsAreNamed(String text) throws IOException {
        List<Path> tests;
        try (Stream<Path> files = Files.list(Path.of("src/test/java"))) {
            tests = files.filter(file -> file.toString().endsWith("Test.java")).toList();
        }
        Due.isTrue("tests were found", !tests.isEmpty());
        for (Path test : tests) {
            String name = test.getFileName().toString().replace(".java", "");
            Due.isTrue("README names " + name, text.contains("`" + name + "`"));
        }
    }
}
