import java.io.IOException;
import java.lang.reflect.Constructor;
import java.lang.reflect.Field;
import java.lang.reflect.Method;
import java.lang.reflect.Modifier;
import java.nio.file.Files;
import java.nio.file.Path;
import java.util.ArrayList;
import java.util.Arrays;
import java.util.List;
import java.util.Set;
import java.util.TreeSet;
import java.util.regex.Matcher;
import java.util.regex.Pattern;

/** The face as the document writes it, and those rules of LANGUAGE.md that a look at the class can tell. */
public final class FaceTest {
    private static final Path DOCUMENT = Path.of("../shared/DOC.md");
    private static final Path SOURCE = Path.of("src/main/java/Candleford.java");
    private static final Pattern MEMBER = Pattern.compile("    public (\\w+) (\\w+)\\(([^)]*)\\)( throws (.*))?;");
    private static final Set<String> IMPORTS =
            Set.of("java.util.ArrayList", "java.util.Arrays", "java.util.NoSuchElementException");
    private static final String[] BANNED = {"->", "::", "finally", "synchronized", "assert", "protected", "Exact(",
            "package ", "try {", "catch (", "static {", "native", "volatile", "var ", "Object", "System.out"};

    public static void main(String[] args) throws IOException {
        List<String> source = Files.readAllLines(SOURCE);
        Check.due(documentFace(), "the face", () -> classFace());
        Check.due("public final", "the class", () -> Modifier.toString(Candleford.class.getModifiers()));
        Check.due("[public Candleford()]", "constructors", () -> Arrays.toString(Candleford.class.getConstructors()));
        Check.due("[]", "members that are neither private nor of the face", () -> strayMembers());
        Check.due("[]", "static state", () -> staticState());
        Check.due("[]", "private methods with a name of the face", () -> namesTwice());
        Check.due("[]", "banned lines", () -> bannedLines(source));
        Check.due("[]", "methods of more than 60 lines", () -> longMethods(source));
        Check.end();
    }

    private static Set<String> documentFace() throws IOException {
        Set<String> face = new TreeSet<>();
        for (String line : Files.readAllLines(DOCUMENT)) {
            Matcher member = MEMBER.matcher(line);
            if (member.matches()) {
                String types = member.group(3).replaceAll("(\\w+) \\w+", "$1");
                String thrown = member.group(5) == null ? "" : member.group(5);
                face.add(member.group(1) + " " + member.group(2) + "(" + types + ") " + thrown);
            }
        }
        return face;
    }

    private static Set<String> classFace() {
        Set<String> face = new TreeSet<>();
        for (Method method : Candleford.class.getDeclaredMethods()) {
            if (Modifier.isPublic(method.getModifiers())) {
                face.add(method.getReturnType().getSimpleName() + " " + method.getName() + "("
                        + names(method.getParameterTypes()) + ") " + names(method.getExceptionTypes()));
            }
        }
        return face;
    }

    private static String names(Class<?>[] types) {
        List<String> names = new ArrayList<>();
        for (Class<?> type : types) {
            names.add(type.getSimpleName());
        }
        return String.join(", ", names);
    }

    private static List<String> strayMembers() {
        List<String> stray = new ArrayList<>();
        for (Method method : Candleford.class.getDeclaredMethods()) {
            if (!method.isSynthetic() && !Modifier.isPublic(method.getModifiers())
                    && !Modifier.isPrivate(method.getModifiers())) {
                stray.add(method.getName());
            }
        }
        for (Field field : Candleford.class.getDeclaredFields()) {
            if (!Modifier.isPrivate(field.getModifiers())) {
                stray.add(field.getName());
            }
        }
        for (Constructor<?> constructor : Candleford.class.getDeclaredConstructors()) {
            if (!Modifier.isPublic(constructor.getModifiers())) {
                stray.add(constructor.toString());
            }
        }
        for (Class<?> inside : Candleford.class.getDeclaredClasses()) {
            if (Modifier.isPublic(inside.getModifiers()) || !Modifier.isStatic(inside.getModifiers())) {
                stray.add(inside.getName());
            }
        }
        return stray;
    }

    private static List<String> staticState() {
        List<String> state = new ArrayList<>();
        for (Field field : Candleford.class.getDeclaredFields()) {
            if (Modifier.isStatic(field.getModifiers()) && !Modifier.isFinal(field.getModifiers())) {
                state.add(field.getName());
            }
        }
        return state;
    }

    private static List<String> namesTwice() {
        Set<String> names = new TreeSet<>();
        for (Method method : Candleford.class.getMethods()) {
            names.add(method.getName());
        }
        List<Class<?>> classes = new ArrayList<>(List.of(Candleford.class.getDeclaredClasses()));
        classes.add(Candleford.class);
        List<String> twice = new ArrayList<>();
        for (Class<?> each : classes) {
            for (Method method : each.getDeclaredMethods()) {
                boolean isOfFace = each == Candleford.class && Modifier.isPublic(method.getModifiers());
                if (!isOfFace && names.contains(method.getName())) {
                    twice.add(method.toString());
                }
            }
        }
        return twice;
    }

    private static List<String> bannedLines(List<String> source) {
        List<String> banned = new ArrayList<>();
        for (String line : source) {
            String code = line.trim();
            if (code.startsWith("*") || code.startsWith("/*") || code.startsWith("//")) {
                continue;
            }
            boolean isForeign = code.startsWith("import ")
                    && !IMPORTS.contains(code.substring("import ".length(), code.length() - 1));
            boolean hasBanned = Arrays.stream(BANNED).anyMatch(word -> code.contains(word));
            if (isForeign || hasBanned || code.chars().anyMatch(sign -> sign > 127)) {
                banned.add(code);
            }
        }
        return banned;
    }

    private static List<String> longMethods(List<String> source) {
        List<String> tooLong = new ArrayList<>();
        for (int from = 0; from < source.size(); from++) {
            String line = source.get(from);
            String margin = line.substring(0, line.length() - line.stripLeading().length());
            boolean isMethod = margin.length() <= 8 && line.contains("(") && (line.endsWith("{") || line.endsWith(")"));
            int to = from;
            while (isMethod && !source.get(to).equals(margin + "}")) {
                to++;
            }
            if (to - from > 60) {
                tooLong.add(line.trim());
            }
        }
        return tooLong;
    }
}
