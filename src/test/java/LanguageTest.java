import java.io.IOException;
import java.lang.reflect.Constructor;
import java.lang.reflect.Field;
import java.lang.reflect.GenericArrayType;
import java.lang.reflect.Method;
import java.lang.reflect.Modifier;
import java.lang.reflect.ParameterizedType;
import java.lang.reflect.Type;
import java.net.URISyntaxException;
import java.nio.file.Files;
import java.nio.file.Path;
import java.util.ArrayList;
import java.util.Arrays;
import java.util.HashMap;
import java.util.HashSet;
import java.util.List;
import java.util.Map;
import java.util.Set;
import java.util.TreeSet;
import java.util.regex.Matcher;
import java.util.regex.Pattern;
import java.util.stream.Stream;

/**
 * The face that the document tells, and the rules of LANGUAGE.md as far as they can be seen in the source or in what
 * javac makes of it; rules 7 and 9 are seen by the tests that call everything with everything.
 */
public final class LanguageTest {
    private static final Path SOURCE = Path.of("src/main/java/ReliefBuilder.java");
    private static final Path DOCUMENT = Path.of("../shared/DOC.md");
    private static final String EXCEPTIONS = "(IllegalState|IllegalArgument|IndexOutOfBounds|Arithmetic"
            + "|UnsupportedOperation|NoSuchElement|Runtime)Exception";

    private static final List<Class<?>> CLASSES = new ArrayList<>();
    private static final List<ClassFile.Body> BODIES = new ArrayList<>();

    public static void main(String[] args) throws IOException, ReflectiveOperationException, URISyntaxException {
        CLASSES.addAll(classes());
        for (Class<?> type : CLASSES) {
            BODIES.addAll(ClassFile.of(type).bodies);
        }
        String code = code();
        face();
        hiddenMembers();
        nestedClasses(code);
        types();
        library(code);
        staticFields(code);
        exceptions(code);
        loops(code);
        depths();
        sizes();
        Check.end("LanguageTest");
    }

    /** All that javac made of the source but its own table for a switch; the class of the face comes first. */
    private static List<Class<?>> classes() throws IOException, ReflectiveOperationException, URISyntaxException {
        Path out = Path.of(ReliefBuilder.class.getProtectionDomain().getCodeSource().getLocation().toURI());
        List<Path> files;
        try (Stream<Path> found = Files.list(out)) {
            files = found.sorted().toList();
        }
        List<Class<?>> classes = new ArrayList<>(List.of(ReliefBuilder.class));
        for (Path file : files) {
            String name = file.getFileName().toString();
            if (name.startsWith("ReliefBuilder$") && name.endsWith(".class")) {
                Class<?> type = Class.forName(name.substring(0, name.length() - ".class".length()));
                if (!type.isSynthetic()) {
                    classes.add(type);
                }
            }
        }
        return classes;
    }

    /** The source without its comments. */
    private static String code() throws IOException {
        return Files.readString(SOURCE).replaceAll("(?s)/\\*.*?\\*/", "").replaceAll("//[^\n]*", "");
    }

    private static void never(String rule, String code, String pattern) {
        Matcher matcher = Pattern.compile(pattern).matcher(code);
        Check.due(rule + ": " + pattern, "", () -> matcher.find() ? matcher.group() : "");
    }

    // ---- rule 1: the face

    /** The lines of the public face in the document, as "int tone(int,int) IndexOutOfBoundsException". */
    private static Set<String> told() throws IOException {
        Set<String> told = new TreeSet<>();
        Pattern line = Pattern.compile("public (int|float|boolean) (\\w+)\\(([^)]*)\\)(?: throws ([\\w, ]+))?;");
        Matcher matcher = line.matcher(Files.readString(DOCUMENT));
        while (matcher.find()) {
            String types = matcher.group(3).replaceAll("(\\w+) \\w+", "$1").replace(" ", "");
            String throwing = matcher.group(4) == null ? "" : matcher.group(4).replace(" ", "");
            told.add(matcher.group(1) + " " + matcher.group(2) + "(" + types + ") " + throwing);
        }
        return told;
    }

    private static String names(Class<?>[] types) {
        List<String> names = new ArrayList<>();
        for (Class<?> type : types) {
            names.add(type.getSimpleName());
        }
        return String.join(",", names);
    }

    private static void face() throws IOException {
        Set<String> got = new TreeSet<>();
        for (Method method : ReliefBuilder.class.getDeclaredMethods()) {
            if (!Modifier.isPrivate(method.getModifiers())) {
                got.add(method.getReturnType() + " " + method.getName() + "(" + names(method.getParameterTypes())
                        + ") " + names(method.getExceptionTypes()));
            }
        }
        Set<String> told = told();
        Check.due("the methods of the face", told, () -> got);
        Check.due("their number", 64, () -> told.size());
        Constructor<?>[] constructors = ReliefBuilder.class.getDeclaredConstructors();
        Check.due("one constructor", "[public ReliefBuilder()]", () -> Arrays.toString(constructors));
        Check.due("public and final", "public final", () -> Modifier.toString(ReliefBuilder.class.getModifiers()));
        Check.due("nothing above it", Object.class, ReliefBuilder.class::getSuperclass);
        Check.due("nothing beside it", 0, () -> ReliefBuilder.class.getInterfaces().length);
    }

    private static void hiddenMembers() {
        Set<String> seen = new TreeSet<>();
        for (Field field : ReliefBuilder.class.getDeclaredFields()) {
            if (!Modifier.isPrivate(field.getModifiers())) {
                seen.add(field.toString());
            }
        }
        Check.due("the constant of the face", "[public static final int ReliefBuilder.NONE]", seen::toString);
        Check.due("its value", -1, () -> ReliefBuilder.NONE);
        Set<String> face = new TreeSet<>();
        for (Method method : ReliefBuilder.class.getDeclaredMethods()) {
            if (Modifier.isPublic(method.getModifiers())) {
                face.add(method.getName());
            }
        }
        List<String> hidden = new ArrayList<>();
        for (Class<?> type : CLASSES) {
            for (Method method : type.getDeclaredMethods()) {
                if (Modifier.isPrivate(method.getModifiers()) && face.contains(method.getName())) {
                    hidden.add(method.toString());
                }
            }
        }
        Check.due("no hidden method bears a name of the face", List.of(), () -> hidden);
    }

    // ---- rule 2: the classes inside

    private static void nestedClasses(String code) throws IOException {
        for (Class<?> type : CLASSES.subList(1, CLASSES.size())) {
            int modifiers = type.getModifiers();
            if (type.getDeclaringClass() == ReliefBuilder.class) {
                Check.due(type + " is static", true, () -> Modifier.isStatic(modifiers));
            }
            Check.due(type + " is hidden", false,
                    () -> Modifier.isPublic(modifiers) || Modifier.isProtected(modifiers));
            Check.due(type + " captures no variable", true, () -> !type.isLocalClass()
                    || Arrays.stream(type.getDeclaredFields()).noneMatch(field -> field.getName().startsWith("val$")));
        }
        for (Class<?> type : CLASSES) {
            ClassFile file = ClassFile.of(type);
            Check.due(type + " has no lambda, no method reference and no joining by +", false,
                    () -> file.callsDynamically && !type.isRecord());
        }
        never("rule 2", code.replaceAll("\\b(case\\b[^;{}>]*|default\\s*)->", ""), "->");
        never("rule 2", code, "::");
    }

    // ---- rule 3: the types

    private static void types() {
        for (Class<?> type : CLASSES) {
            for (Field field : type.getDeclaredFields()) {
                Check.due("rule 3: the type of " + field, true, () -> isAllowed(field.getGenericType()));
                if (type.isEnum() && !Modifier.isStatic(field.getModifiers())) {
                    Check.due("rule 2: the type of " + field, true,
                            () -> List.of(int.class, long.class, boolean.class, String.class).contains(field.getType()));
                }
            }
            for (Method method : type.getDeclaredMethods()) {
                if (!isMadeByJavac(type, method)) {
                    Check.due("rule 3: what " + method + " answers", true,
                            () -> isAllowed(method.getGenericReturnType()));
                    for (Type parameter : method.getGenericParameterTypes()) {
                        Check.due("rule 3: what " + method + " takes", true, () -> isAllowed(parameter));
                    }
                }
            }
        }
        for (ClassFile.Body body : BODIES) {
            Check.due("rule 3: no rest of floats in " + body.id(), false,
                    () -> body.operations.contains(ClassFile.FREM) || body.operations.contains(ClassFile.DREM));
        }
    }

    private static boolean isMadeByJavac(Class<?> type, Method method) {
        return method.isSynthetic()
                || type.isRecord() && Set.of("equals", "hashCode", "toString").contains(method.getName());
    }

    private static boolean isAllowed(Type type) {
        if (type instanceof ParameterizedType list) {
            return isAllowed(list.getRawType()) && Arrays.stream(list.getActualTypeArguments())
                    .allMatch(LanguageTest::isAllowed);
        }
        if (type instanceof GenericArrayType array) {
            return isAllowed(array.getGenericComponentType());
        }
        if (!(type instanceof Class<?> plain)) {
            return true;
        }
        if (plain.isArray()) {
            Class<?> part = plain.getComponentType();
            return part.isPrimitive() || CLASSES.contains(part)
                    || part.isArray() && part.getComponentType().isPrimitive();
        }
        return plain.isPrimitive() || CLASSES.contains(plain)
                || Set.of("String", "StringBuilder", "Integer", "ArrayList", "List", "Iterator", "Iterable",
                        "Comparable").contains(plain.getSimpleName());
    }

    // ---- rule 4: the library

    private static void library(String code) throws IOException {
        Pattern library = Pattern.compile("\\[.*\\.clone\\(\\).*|java/lang/((Object|Record)\\.<init>\\(\\)V"
                + "|runtime/ObjectMethods\\..*"
                + "|Enum\\.(<init>|valueOf|ordinal)\\(.*"
                + "|String\\.(length|charAt|isEmpty|equals|indexOf|substring|toCharArray|<init>)\\(.*"
                + "|StringBuilder\\.(<init>|append|charAt|setCharAt|setLength|deleteCharAt|reverse|length|toString)\\(.*"
                + "|(Math|Integer|Long)\\.\\w+(?<!Exact)\\([IJ]+\\)[IJZ]"
                + "|Integer\\.(intValue\\(\\)I|valueOf\\(I\\).*)"
                + "|System\\.arraycopy\\(.*|" + EXCEPTIONS + "\\.<init>\\(.*)"
                + "|java/util/(NoSuchElementException\\.<init>\\(.*|Arrays\\.(copyOf|copyOfRange|fill)\\(.*"
                + "|(ArrayList|List)\\.(<init>|add|get|set|remove|size|isEmpty|clear|iterator|of)\\(.*"
                + "|Iterator\\.(hasNext|next)\\(.*)");
        for (Class<?> type : CLASSES) {
            for (String name : ClassFile.of(type).named) {
                if (!name.startsWith("ReliefBuilder")) {
                    Check.due("rule 4: " + type.getSimpleName() + " uses " + name, true,
                            () -> library.matcher(name).matches());
                }
            }
        }
        never("rule 4: a class by its whole name", code.replaceAll("import [^;]+;", ""), "\\bjava\\.");
        Check.due("plain signs", true, () -> code.chars().allMatch(c -> c == '\n' || c >= 32 && c < 127));
        never("a package", code, "\\bpackage\\b");
    }

    // ---- rule 5: static fields

    private static void staticFields(String code) {
        for (Class<?> type : CLASSES) {
            for (Field field : type.getDeclaredFields()) {
                if (!Modifier.isStatic(field.getModifiers())) {
                    continue;
                }
                Check.due("rule 5: " + field + " is final", true, () -> Modifier.isFinal(field.getModifiers()));
                Class<?> kept = field.getType().isArray() ? field.getType().getComponentType() : field.getType();
                Check.due("rule 5: the type of " + field, true, () -> kept.isEnum()
                        || List.of(int.class, long.class, boolean.class, char.class, byte.class, String.class)
                                .contains(kept));
            }
        }
        never("rule 5: a static block", code, "\\bstatic *\\{");
    }

    // ---- rule 6: exceptions

    private static void exceptions(String code) {
        never("rule 6", code, "\\b(finally|synchronized|assert)\\b");
        never("rule 6", code, "\\btry *\\(");
        never("rule 6", code, "\\bthrow\\b(?! new " + EXCEPTIONS + "\\((\"[^\"]*\")?\\);)");
        never("rule 6", code, "\\bcatch *\\((?!" + EXCEPTIONS + "( *\\| *" + EXCEPTIONS + ")* \\w+\\))");
        never("rule 6", code, "\\b(equals|hashCode|toString) *\\([^)]*\\) *\\{");
        for (ClassFile.Body body : BODIES) {
            for (String caught : body.caught) {
                Check.due("rule 6: " + body.id() + " catches " + caught, true,
                        () -> caught.matches("java/(lang|util)/" + EXCEPTIONS));
            }
            if (body.operations.contains(ClassFile.ATHROW)) {
                Check.due("rule 6: " + body.id() + " does not catch what it throws", Set.of(), () -> body.caught);
                Check.due("rule 6: no throw in a constructor", false, () -> body.name.startsWith("<"));
            }
        }
    }

    // ---- rules 9 and 10

    private static void loops(String code) {
        never("rule 9: a loop without an end", code, "\\bwhile *\\( *true|\\bfor *\\([^;)]*; *;");
        never("rule 10: texts joined by +", code, "\" *\\+|\\+ *\"");
    }

    // ---- rules 8 and 11: how deep calls go

    private static void depths() {
        Map<String, ClassFile.Body> all = new HashMap<>();
        BODIES.forEach(body -> all.put(body.id(), body));
        Check.due("the bodies are read", true, () -> all.size() > 200);
        for (ClassFile.Body body : BODIES) {
            Check.due("rule 11: calls below " + body.id(), true, () -> depth(all, body, new HashSet<>()) <= 8);
            if (reached(all, body).contains(body.id())) {
                Check.due("rule 8: " + body.id() + " calls itself and carries a depth", true,
                        () -> body.type.matches("\\(.*I.*\\).*"));
            }
        }
        Check.due("the depth of calls is seen", true,
                () -> depth(all, all.get("ReliefBuilder.polish()I"), new HashSet<>()) >= 5);
        Check.due("recursion is seen", true,
                () -> reached(all, all.get("ReliefBuilder$Script.readCommand(I)Z"))
                        .contains("ReliefBuilder$Script.readCommand(I)Z"));
    }

    /** The methods on the longest chain of calls from here, each only once. */
    private static int depth(Map<String, ClassFile.Body> all, ClassFile.Body body, Set<String> open) {
        int most = 0;
        open.add(body.id());
        for (String call : body.calls) {
            if (all.containsKey(call) && !open.contains(call)) {
                most = Math.max(most, depth(all, all.get(call), open));
            }
        }
        open.remove(body.id());
        return most + 1;
    }

    private static Set<String> reached(Map<String, ClassFile.Body> all, ClassFile.Body from) {
        Set<String> reached = new HashSet<>();
        List<ClassFile.Body> next = new ArrayList<>(List.of(from));
        for (int i = 0; i < next.size(); i++) {
            for (String call : next.get(i).calls) {
                if (all.containsKey(call) && reached.add(call)) {
                    next.add(all.get(call));
                }
            }
        }
        return reached;
    }

    // ---- rule 11: sizes

    private static void sizes() {
        Check.due("rule 11: at most twelve classes", true, () -> CLASSES.size() <= 12);
        Check.due("classes are seen", true, () -> CLASSES.size() > 3);
        for (Class<?> type : CLASSES) {
            int fields = 0;
            for (Field field : type.getDeclaredFields()) {
                fields += Modifier.isStatic(field.getModifiers()) ? 0 : 1;
            }
            int count = fields;
            Check.due("rule 11: the fields of " + type, true, () -> count <= 20);
            for (Method method : type.getDeclaredMethods()) {
                Check.due("rule 11: the parameters of " + method, true, () -> method.getParameterCount() <= 7);
            }
        }
        for (ClassFile.Body body : BODIES) {
            Check.due("rule 11: the lines of " + body.id(), true, () -> body.lines <= 60);
        }
        Check.due("lines are seen", true, () -> BODIES.stream().anyMatch(body -> body.lines > 20));
    }
}
