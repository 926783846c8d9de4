import java.io.IOException;
import java.lang.reflect.Constructor;
import java.lang.reflect.Field;
import java.lang.reflect.Method;
import java.lang.reflect.Modifier;
import java.nio.file.Files;
import java.nio.file.Path;
import java.util.ArrayList;
import java.util.Arrays;
import java.util.List;
import java.util.Set;
import java.util.TreeSet;
import java.util.regex.Matcher;
import java.util.regex.Pattern;

/** The face that the document tells, and those rules of LANGUAGE.md that can be seen in the file. */
public final class LanguageTest {
    private static final Path SOURCE = Path.of("src/main/java/ReliefBuilder.java");
    private static final Set<String> LIBRARY = Set.of("java.util.Arrays", "java.util.ArrayList", "java.util.List",
            "java.util.Iterator", "java.util.NoSuchElementException");
    private static final Path DOCUMENT = Path.of("../shared/DOC.md");

    public static void main(String[] args) throws IOException {
        face();
        hiddenMembers();
        nestedClasses();
        source();
        Check.end("LanguageTest");
    }

    /** The lines of the public face in the document, as "int tone(int,int) IndexOutOfBoundsException". */
    private static Set<String> told() throws IOException {
        Set<String> told = new TreeSet<>();
        Pattern line = Pattern.compile("public (int|float|boolean) (\\w+)\\(([^)]*)\\)(?: throws ([\\w, ]+))?;");
        Matcher matcher = line.matcher(Files.readString(DOCUMENT));
        while (matcher.find()) {
            String types = matcher.group(3).replaceAll("(\\w+) \\w+", "$1").replace(" ", "");
            String throwing = matcher.group(4) == null ? "" : matcher.group(4).replace(" ", "");
            told.add(matcher.group(1) + " " + matcher.group(2) + "(" + types + ") " + throwing);
        }
        return told;
    }

    private static String names(Class<?>[] types) {
        List<String> names = new ArrayList<>();
        for (Class<?> type : types) {
            names.add(type.getSimpleName());
        }
        return String.join(",", names);
    }

    private static void face() throws IOException {
        Set<String> got = new TreeSet<>();
        for (Method method : ReliefBuilder.class.getDeclaredMethods()) {
            if (!Modifier.isPrivate(method.getModifiers())) {
                got.add(method.getReturnType() + " " + method.getName() + "(" + names(method.getParameterTypes())
                        + ") " + names(method.getExceptionTypes()));
            }
        }
        Set<String> told = told();
        Check.due("the methods of the face", told, () -> got);
        Check.due("their number", 64, () -> told.size());
        Constructor<?>[] constructors = ReliefBuilder.class.getDeclaredConstructors();
        Check.due("one constructor", "[public ReliefBuilder()]", () -> Arrays.toString(constructors));
        Check.due("public and final", "public final", () -> Modifier.toString(ReliefBuilder.class.getModifiers()));
    }

    private static void hiddenMembers() {
        Set<String> seen = new TreeSet<>();
        for (Field field : ReliefBuilder.class.getDeclaredFields()) {
            if (!Modifier.isPrivate(field.getModifiers())) {
                seen.add(field.toString());
            }
        }
        Check.due("the constant of the face", "[public static final int ReliefBuilder.NONE]", seen::toString);
        Set<String> face = new TreeSet<>();
        List<String> hidden = new ArrayList<>();
        for (Method method : ReliefBuilder.class.getDeclaredMethods()) {
            if (Modifier.isPublic(method.getModifiers())) {
                face.add(method.getName());
            } else {
                hidden.add(method.getName());
            }
        }
        for (Class<?> nested : ReliefBuilder.class.getDeclaredClasses()) {
            for (Method method : nested.getDeclaredMethods()) {
                if (Modifier.isPrivate(method.getModifiers())) {
                    hidden.add(method.getName());
                }
            }
        }
        hidden.retainAll(face);
        Check.due("no hidden method bears a name of the face", List.of(), () -> hidden);
    }

    private static void nestedClasses() {
        Class<?>[] nested = ReliefBuilder.class.getDeclaredClasses();
        Check.due("at most twelve classes", true, () -> nested.length + 1 <= 12);
        for (Class<?> type : nested) {
            int modifiers = type.getModifiers();
            Check.due(type + " is static", true, () -> Modifier.isStatic(modifiers));
            Check.due(type + " is hidden", false,
                    () -> Modifier.isPublic(modifiers) || Modifier.isProtected(modifiers));
        }
    }

    private static void source() throws IOException {
        String source = Files.readString(SOURCE);
        String code = source.replaceAll("(?s)/\\*.*?\\*/", "").replaceAll("//[^\n]*", "");
        String withoutCases = code.replaceAll("\\b(case\\b[^;{}>]*|default\\s*)->", "");
        Check.due("rule 2: no lambda", false, () -> withoutCases.contains("->"));
        String[] forbidden = {"::", "\\bfinally\\b", "\\bassert\\b", "\\bsynchronized\\b", "\\bpackage\\b",
            "\\bThread\\b", "\\bRandom\\b", "\\bSystem\\.(?!arraycopy)", "\\bFloat\\b", "\\bDouble\\b", "\\bString\\.",
            "\\w+Exact\\(", "\\bprotected\\b", "\\bstatic \\{", "\" *\\+", "\\+ *\"", "\\bcatch *\\((?![^)]*Exception)",
            "\\bcatch *\\([^)]*(\\bException|ArrayIndex|NullPointer|ClassCast|NegativeArray|ArrayStore)"};
        for (String pattern : forbidden) {
            Matcher matcher = Pattern.compile(pattern).matcher(code);
            Check.due("rules: " + pattern, false, matcher::find);
        }
        Matcher imports = Pattern.compile("import ([^;]+);").matcher(code);
        while (imports.find()) {
            String name = imports.group(1);
            Check.due("rule 4: " + name, true, () -> LIBRARY.contains(name));
        }
        Check.due("plain signs", true, () -> code.chars().allMatch(c -> c == '\n' || c >= 32 && c < 127));
    }
}
