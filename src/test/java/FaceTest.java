import java.io.IOException;
import java.lang.reflect.Field;
import java.lang.reflect.InvocationTargetException;
import java.lang.reflect.Method;
import java.lang.reflect.Modifier;
import java.nio.file.Files;
import java.nio.file.Path;
import java.util.Arrays;
import java.util.Random;
import java.util.TreeSet;
import java.util.regex.Matcher;
import java.util.regex.Pattern;

/** The face of the class, the exceptions that leave it, and the rules of LANGUAGE.md that a text search can see. */
public final class FaceTest extends Checks {
    private static final int HOSTILE_CALLS = 200000;
    private static final int MOST_CLASSES = 12;
    private static final int MOST_FIELDS = 20;
    private static final int MOST_PARAMETERS = 7;
    private static final Path SOURCE = Path.of("src/main/java/Bandplan.java");
    private static final Path DOCUMENT = Path.of("../shared/DOC.md");

    /** The document's own lines, such as "public int rounds();", against the methods there are. */
    private static void face() throws IOException {
        TreeSet<String> due = new TreeSet<>();
        Matcher line = Pattern.compile("public (\\w+) (\\w+)\\(([^)]*)\\)(?: throws ([^;]+))?;")
            .matcher(Files.readString(DOCUMENT));
        while (line.find()) {
            String types = line.group(3).replaceAll(" \\w+(,|$)", "$1");
            String thrown = line.group(4) == null ? "" : line.group(4);
            due.add(line.group(1) + " " + line.group(2) + "(" + types + ") " + thrown);
        }
        TreeSet<String> got = new TreeSet<>();
        TreeSet<String> names = new TreeSet<>();
        for (Method method : Bandplan.class.getDeclaredMethods()) {
            if (Modifier.isPublic(method.getModifiers())) {
                got.add(simple(method.getReturnType()) + " " + method.getName() + "("
                    + simple(method.getParameterTypes()) + ") " + simple(method.getExceptionTypes()));
                names.add(method.getName());
            } else if (!Modifier.isPrivate(method.getModifiers())) {
                tell("not private: " + method);
            }
        }
        if (due.size() != 33 || !due.equals(got)) {
            tell("the face differs: " + due + " and " + got);
        }
        members(names);
    }

    private static void members(TreeSet<String> names) {
        for (Method method : Bandplan.class.getDeclaredMethods()) {
            if (Modifier.isPrivate(method.getModifiers()) && names.contains(method.getName())) {
                tell("a private method with a public name: " + method);
            }
        }
        for (Field field : Bandplan.class.getDeclaredFields()) {
            if (!Modifier.isPrivate(field.getModifiers())) {
                tell("not private: " + field);
            }
        }
        int constructors = Bandplan.class.getDeclaredConstructors().length;
        if (constructors != 1 || Bandplan.class.getConstructors().length != 1
            || !Modifier.isFinal(Bandplan.class.getModifiers())) {
            tell("one public constructor in a final class is due");
        }
        for (Class<?> inside : Bandplan.class.getDeclaredClasses()) {
            if (!Modifier.isStatic(inside.getModifiers()) || Modifier.isPublic(inside.getModifiers())) {
                tell("not a private static class: " + inside);
            }
        }
    }

    /** Rule 11, as far as it can be seen from outside, and rule 5: static fields are final. */
    private static void sizes() {
        Class<?>[] inside = Bandplan.class.getDeclaredClasses();
        if (inside.length + 1 > MOST_CLASSES) {
            tell("more than " + MOST_CLASSES + " classes: " + (inside.length + 1));
        }
        sizesOf(Bandplan.class);
        for (Class<?> type : inside) {
            sizesOf(type);
        }
    }

    private static void sizesOf(Class<?> type) {
        int fields = 0;
        for (Field field : type.getDeclaredFields()) {
            boolean isStatic = Modifier.isStatic(field.getModifiers());
            fields += isStatic ? 0 : 1;
            if (isStatic && !Modifier.isFinal(field.getModifiers())) {
                tell("static and not final: " + field);
            }
        }
        if (fields > MOST_FIELDS) {
            tell("more than " + MOST_FIELDS + " fields: " + type);
        }
        for (Method method : type.getDeclaredMethods()) {
            if (method.getParameterCount() > MOST_PARAMETERS) {
                tell("more than " + MOST_PARAMETERS + " parameters: " + method);
            }
        }
    }

    private static String simple(Class<?>... types) {
        StringBuilder text = new StringBuilder();
        for (Class<?> type : types) {
            text.append(text.length() == 0 ? "" : ", ").append(type.getSimpleName());
        }
        return text.toString();
    }

    private static void rules() throws IOException {
        String source = Files.readString(SOURCE);
        String code = source.replaceAll("(?s)/\\*.*?\\*/", "").replaceAll("//[^\n]*", "");
        String[] forbidden = {
            "->", "::", "\\btry\\b", "\\bcatch\\b", "\\bpackage\\b", "\\bfinally\\b", "\\binstanceof\\b",
            "\\bassert\\b", "\\bsynchronized\\b", "Exact\\b", "\\bDouble\\b", "\\bFloat\\b", "\\bObject\\b",
            "\\bSystem\\.(?!arraycopy)", "\\bMath\\.(?!abs|max|min|floorDiv)", "(?m)^ *protected ",
            "import (?!java\\.util\\.(ArrayList|NoSuchElementException);)"};
        for (String pattern : forbidden) {
            Matcher found = Pattern.compile(pattern).matcher(code);
            if (found.find()) {
                tell("against LANGUAGE.md: " + pattern + " at ..." + code.substring(found.start(),
                    Math.min(code.length(), found.start() + 40)));
            }
        }
        if (source.chars().anyMatch(sign -> sign > 127)) {
            tell("a sign above 127 in the source");
        }
    }

    private static Object nasty(Class<?> type, Random random) {
        int[] values = {Integer.MIN_VALUE, Integer.MIN_VALUE + 1, -100, -9, -1, 99, 100, 9999, 10000,
            Integer.MAX_VALUE - 1, Integer.MAX_VALUE};
        if (type == boolean.class) {
            return random.nextBoolean();
        }
        boolean isNasty = random.nextInt(4) == 0;
        return isNasty ? values[random.nextInt(values.length)] : random.nextInt(random.nextBoolean() ? 4 : 12);
    }

    /** Any arguments, in any state, far beyond the 512th call: only what the document lists is thrown. */
    private static void hostile() throws IllegalAccessException {
        Random random = new Random(7);
        Method[] methods = Arrays.stream(Bandplan.class.getDeclaredMethods())
            .filter(method -> Modifier.isPublic(method.getModifiers()))
            .sorted((a, b) -> a.getName().compareTo(b.getName())).toArray(Method[]::new);
        Bandplan x = new Bandplan();
        for (int i = 0; i < HOSTILE_CALLS; i++) {
            if (i % 20000 == 0 && i < HOSTILE_CALLS / 2) {
                x = new Bandplan();
            }
            Method method = methods[random.nextInt(methods.length)];
            Object[] arguments = new Object[method.getParameterCount()];
            for (int k = 0; k < arguments.length; k++) {
                arguments[k] = nasty(method.getParameterTypes()[k], random);
            }
            try {
                method.invoke(x, arguments);
            } catch (InvocationTargetException e) {
                Class<?> thrown = e.getCause().getClass();
                if (!isOwn(e.getCause()) || !Arrays.asList(method.getExceptionTypes()).contains(thrown)) {
                    tell(method.getName() + Arrays.toString(arguments) + " throws " + e.getCause());
                }
            }
        }
    }

    public static void main(String[] args) throws IOException, IllegalAccessException {
        face();
        sizes();
        rules();
        hostile();
        end("the face is as due");
    }
}
