import java.io.IOException;
import java.lang.reflect.InvocationTargetException;
import java.lang.reflect.Method;
import java.util.ArrayList;
import java.util.Arrays;
import java.util.Comparator;
import java.util.HashSet;
import java.util.List;
import java.util.Map;
import java.util.Set;

/**
 * Each sentence of the document that names a boundary case has a test of its own in the classes below, which names
 * it by @Sentence. Here they run, and here it is seen whether a sentence was left out.
 */
public final class BoundaryTest {
    private static final Class<?>[] TESTS = {TextBounds.class, ScriptBounds.class, PanelBounds.class,
        LightBounds.class, WallBounds.class, LayerBounds.class, ChangeBounds.class, StampBounds.class,
        KeepBounds.class, CallBounds.class};

    private final Map<String, List<String>> parts;
    private final Set<String> tested = new HashSet<>();

    private BoundaryTest(Map<String, List<String>> parts) {
        this.parts = parts;
    }

    public static void main(String[] args) throws IOException, IllegalAccessException {
        BoundaryTest test = new BoundaryTest(Document.parts());
        for (Class<?> type : TESTS) {
            test.runAll(type);
        }
        Check.within("");
        test.findUntested();
        Check.end("BoundaryTest");
    }

    private void runAll(Class<?> type) throws IllegalAccessException {
        Method[] methods = type.getDeclaredMethods();
        Arrays.sort(methods, Comparator.comparing(Method::getName));
        for (Method method : methods) {
            Sentence sentence = method.getAnnotation(Sentence.class);
            if (sentence != null) {
                markTested(sentence);
                run(type.getSimpleName() + "." + method.getName(), sentence, method);
            }
        }
    }

    private void markTested(Sentence sentence) {
        List<String> of = new ArrayList<>();
        for (String other : parts.getOrDefault(sentence.of(), List.of())) {
            if (other.contains(sentence.says())) {
                of.add(other);
                tested.add(sentence.of() + ": " + other);
            }
        }
        Check.due("one sentence of " + sentence.of() + " says \"" + sentence.says() + "\"", 1, of::size);
    }

    private void run(String name, Sentence sentence, Method method) throws IllegalAccessException {
        int before = Check.count();
        Check.within(sentence.of() + ", " + name + ": ");
        try {
            method.invoke(null);
        } catch (InvocationTargetException e) {
            Check.due("it ends", "", () -> e.getCause().toString());
        }
        Check.due("it looks up to the boundary and beyond it", true, () -> Check.count() >= before + 2);
    }

    private void findUntested() {
        Set<String> plain = new HashSet<>(List.of(PLAIN));
        for (Map.Entry<String, List<String>> part : parts.entrySet()) {
            for (String sentence : part.getValue()) {
                String name = part.getKey() + ": " + sentence;
                Check.due(name + " (tested or plain)", true, () -> tested.contains(name) != plain.contains(name));
                plain.remove(name);
            }
        }
        Check.due("plain sentences stand in the document", Set.of(), () -> plain);
    }

    /** The sentences that name no boundary case; the tests of the promises are about them. */
    private static final String[] PLAIN = {
        "what it is: A builder of reliefs through which light shines: tones of a picture become heights in steps, "
            + "thin walls are taken down, parts that stand out are supported, layers are merged into rectangles, and "
            + "the light that comes through is estimated with floats.",
        "what it is: Stamps from racks make holes and posts.",
        "section 4: The relief is built standing, row upon row.",
        "behind section 8: The constants:",
        "behind section 8: The constructor and the methods follow, a promise each: the signature, then what it does.",
        "promise 3: n: the new length",
        "promise 8: Returns this number.",
        "promise 15: Returns the height for what is wanted by a tone.",
        "promise 27: Repairs.",
        "promise 39: Returns that number.",
        "promise 48: Sets the height of a cell.",
        "promise 56: Takes a stamp out of a place.",
        "promise 59: Stamps at a cell.",
        "promise 62: Returns this byte of the latest report."
    };
}
