import java.io.IOException;
import java.lang.reflect.Constructor;
import java.lang.reflect.Field;
import java.lang.reflect.Method;
import java.lang.reflect.Modifier;
import java.nio.charset.StandardCharsets;
import java.nio.file.Files;
import java.nio.file.Path;
import java.util.Arrays;
import java.util.List;
import java.util.Set;
import java.util.TreeSet;
import java.util.regex.Matcher;
import java.util.regex.Pattern;

/** The public face, and the rules of LANGUAGE.md that the classes or the source's text show. */
public final class FaceTest {
    private static final Path SOURCE = Path.of("src/main/java/SilenceCount.java");

    private static final Set<String> FACE = new TreeSet<>(List.of(
        "int monk(int, int, int)", "int leave(int)", "int set(int, int)", "int say(int)", "int wipe()", "int fault()",
        "int judge(int)", "int done()", "int state(int, int)", "int behind(int, int)", "int breaths(int)",
        "int noticed()", "int ahead()", "int differ()", "int alike(int)", "int ends(int)", "int meet(int, int)",
        "int bows(int, int, int)", "int next(int, int)", "int elbows(int)", "int relays(int, int, int, int)",
        "int beads(int, int)", "int seen(int, int, boolean)", "int forget()", "int skips(int, int)",
        "int ask(int, int, int)", "long bees(int, int, int, int)", "int year(int, int, int)", "int image(int)",
        "int restore(int)", "int told(int)"));

    private static final Set<String> CONSTANTS = new TreeSet<>(List.of(
        "int NONE", "int UNKNOWN", "int OUTSIDE", "int STATE", "int FULL", "int NO", "long LOST"));

    public static void main(String[] args) throws IOException {
        face();
        classesInside();
        names();
        sizes();
        text(Files.readString(SOURCE, StandardCharsets.ISO_8859_1));
        Due.close();
    }

    private static void holds(String what, boolean is) {
        Due.isTrue(what, is);
    }

    private static void face() {
        Class<?> face = SilenceCount.class;
        holds("public and final", Modifier.isPublic(face.getModifiers()) && Modifier.isFinal(face.getModifiers()));
        holds("no package", face.getPackageName().isEmpty());
        Set<String> methods = new TreeSet<>();
        for (Method method : face.getDeclaredMethods()) {
            if (!Modifier.isPrivate(method.getModifiers())) {
                List<String> names = Arrays.stream(method.getParameterTypes()).map(Class::getName).toList();
                String types = String.join(", ", names);
                methods.add(method.getReturnType().getName() + " " + method.getName() + "(" + types + ")");
                holds(method + " is public alone", (method.getModifiers() & ~Modifier.FINAL) == Modifier.PUBLIC);
            }
        }
        holds("methods are " + methods, methods.equals(FACE));
        Set<String> constants = new TreeSet<>();
        for (Field field : face.getDeclaredFields()) {
            if (!Modifier.isPrivate(field.getModifiers())) {
                constants.add(field.getType().getName() + " " + field.getName());
                int all = Modifier.PUBLIC | Modifier.STATIC | Modifier.FINAL;
                holds(field + " is a constant", field.getModifiers() == all);
            }
        }
        holds("constants are " + constants, constants.equals(CONSTANTS));
        Constructor<?>[] made = face.getDeclaredConstructors();
        holds("one constructor", made.length == 1 && made[0].getParameterCount() == 0);
        holds("a public constructor", Modifier.isPublic(made[0].getModifiers()));
    }

    private static List<Class<?>> all() {
        List<Class<?>> all = new java.util.ArrayList<>(List.of(SilenceCount.class.getDeclaredClasses()));
        all.add(SilenceCount.class);
        return all;
    }

    private static void classesInside() {
        for (Class<?> inside : SilenceCount.class.getDeclaredClasses()) {
            int modifiers = inside.getModifiers();
            holds(inside + " is static", Modifier.isStatic(modifiers));
            holds(inside + " is hidden", !Modifier.isPublic(modifiers) && !Modifier.isProtected(modifiers));
        }
        for (Class<?> one : all()) {
            for (Field field : one.getDeclaredFields()) {
                boolean isStatic = Modifier.isStatic(field.getModifiers());
                holds(field + " is final, being static", !isStatic || Modifier.isFinal(field.getModifiers()));
            }
        }
    }

    private static void names() {
        Set<String> taken = new TreeSet<>();
        FACE.forEach(method -> taken.add(method.substring(method.indexOf(' ') + 1, method.indexOf('('))));
        for (Class<?> one : all()) {
            for (Method method : one.getDeclaredMethods()) {
                boolean ofFace = one == SilenceCount.class && Modifier.isPublic(method.getModifiers());
                holds(method + " bears a public one's name", ofFace || !taken.contains(method.getName()));
            }
        }
    }

    private static void sizes() throws IOException {
        holds("at most twelve classes", all().size() <= 12);
        for (Class<?> one : all()) {
            long fields = Arrays.stream(one.getDeclaredFields())
                .filter(field -> !Modifier.isStatic(field.getModifiers())).count();
            holds(one + " has some twenty fields at most", fields <= 20);
            for (Method method : one.getDeclaredMethods()) {
                holds(method + " has seven parameters at most", method.getParameterCount() <= 7);
            }
        }
        methodLengths(Files.readAllLines(SOURCE, StandardCharsets.ISO_8859_1));
    }

    private static void methodLengths(List<String> lines) {
        Pattern head = Pattern.compile("( {4}| {8})(?!if|for|switch|while|\\})\\S.*\\) \\{");
        int methods = 0;
        for (int i = 0; i < lines.size(); i++) {
            Matcher found = head.matcher(lines.get(i));
            if (found.matches()) {
                int length = lines.subList(i, lines.size()).indexOf(found.group(1) + "}");
                holds("a method of sixty lines at most at line " + (i + 1), length > 0 && length <= 60);
                methods++;
            }
        }
        holds("methods were found: " + methods, methods >= FACE.size());
    }

    private static void text(String source) {
        for (int i = 0; i < source.length(); i++) {
            if (source.charAt(i) > 126) {
                holds("sign " + i + " is plain", false);
            }
        }
        Matcher imports = Pattern.compile("(?m)^import (.*);").matcher(source);
        while (imports.find()) {
            holds("import " + imports.group(1), List.of("java.util.Arrays").contains(imports.group(1)));
        }
        String code = source.replaceAll("(?s)/\\*.*?\\*/", "").replaceAll("//[^\n]*", "");
        for (String word : List.of("try", "catch", "throw", "throws", "finally", "assert", "synchronized", "instanceof",
            "package", "native", "volatile", "transient", "strictfp", "var", "toString", "hashCode", "random", "Thread",
            "Object", "double", "float", "protected")) {
            holds("no word " + word, !Pattern.compile("\\b" + word + "\\b").matcher(code).find());
        }
        for (String sign : List.of("->", "::", "\"", "@", "static {")) {
            holds("no sign " + sign, !code.contains(sign));
        }
        Matcher calls = Pattern.compile("\\b([A-Z][a-z]\\w*)\\.(\\w+)\\(").matcher(code);
        Set<String> library = Set.of("Integer.bitCount", "Long.bitCount", "Math.max", "Math.min", "Arrays.fill",
            "System.arraycopy");
        Set<String> own = new TreeSet<>();
        all().forEach(one -> own.add(one.getSimpleName()));
        while (calls.find()) {
            String call = calls.group(1) + "." + calls.group(2);
            holds("call of " + call, own.contains(calls.group(1)) || library.contains(call));
        }
    }
}
