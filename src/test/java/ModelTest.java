import java.lang.reflect.InvocationTargetException;
import java.lang.reflect.Method;
import java.nio.charset.StandardCharsets;
import java.util.ArrayList;
import java.util.HashMap;
import java.util.List;
import java.util.Map;
import java.util.Random;

/** Runs of 512 calls, made from a fixed seed, on the class and on the model, which must answer the same. */
public final class ModelTest {
    private static final int RUNS = 400;
    private static final int CALLS = 512;

    private static final Map<String, Method> METHODS = methods(ReliefBuilder.class);
    private static final Map<String, Method> MODEL_METHODS = methods(Model.class);

    /** The kinds of the arguments: x, y, a tone, a height, a layer, rack and place, a free number below n. */
    private static final Map<String, String> ARGUMENTS = new HashMap<>();

    static {
        for (String name : ("volume steepest meanError worstCell fingerprint brightest darkestRow contrast thinCells"
                + " repairLoss supportedCells supportVolume safeSlope allRectangles errorCode errorPosition"
                + " repair ease dither polish invert mirror report undo").split(" ")) {
            ARGUMENTS.put(name, "");
        }
        for (String name : "tone height wanted estimate error isThin overhang".split(" ")) {
            ARGUMENTS.put(name, "x y");
        }
        for (String name : "layerCells runs rectangles largest shortest parts outline hollows".split(" ")) {
            ARGUMENTS.put(name, "l");
        }
        ARGUMENTS.put("truncate", "n900");
        ARGUMENTS.put("setting", "n7");
        ARGUMENTS.put("cellsOf", "h");
        ARGUMENTS.put("light", "h");
        ARGUMENTS.put("heightFor", "t");
        ARGUMENTS.put("smooth", "s");
        ARGUMENTS.put("supportOf", "x y h");
        ARGUMENTS.put("rectangle", "l n12 n4");
        ARGUMENTS.put("rectangleAt", "l x y");
        ARGUMENTS.put("setTone", "x y t");
        ARGUMENTS.put("setHeight", "x y h");
        ARGUMENTS.put("fill", "x y w w h");
        ARGUMENTS.put("lighten", "b");
        ARGUMENTS.put("putStamp", "n3 n4 n2 k d");
        ARGUMENTS.put("takeStamp", "n3 n4");
        ARGUMENTS.put("stampAt", "n3 n4");
        ARGUMENTS.put("moveStamp", "n3 n4 n3 n4");
        ARGUMENTS.put("stamp", "n3 n4 x y");
        ARGUMENTS.put("stampGain", "n3 n4 x y");
        ARGUMENTS.put("reportByte", "n300");
        ARGUMENTS.put("save", "n2");
        ARGUMENTS.put("restore", "n2");
    }

    private static final List<String> NAMES = new ArrayList<>(new java.util.TreeSet<>(ARGUMENTS.keySet()));
    private static final List<String> CHANGES = List.of("setTone", "setHeight", "setHeight", "fill", "fill", "stamp",
            "stamp", "repair", "smooth", "ease", "dither", "polish", "invert", "lighten", "mirror", "undo", "undo",
            "save", "restore", "report");
    private static final List<String> SEEN = List.of("volume", "fingerprint", "meanError");

    private final Random random;
    private final ReliefBuilder builder = new ReliefBuilder();
    private final Model model = new Model();
    private final StringBuilder told = new StringBuilder();
    private int calls;
    private boolean isWrong;

    private ModelTest(int seed) {
        random = new Random(seed);
    }

    public static void main(String[] args) {
        for (int run = 0; run < RUNS; run++) {
            int seed = run;
            Check.due("run " + seed, "", () -> new ModelTest(seed).run());
        }
        Check.due("all methods are called", METHODS.size(), () -> ARGUMENTS.size() + "feed readText runScript".split(" ").length);
        Check.end("ModelTest");
    }

    private static Map<String, Method> methods(Class<?> type) {
        Map<String, Method> methods = new HashMap<>();
        for (Method method : type.getDeclaredMethods()) {
            if (java.lang.reflect.Modifier.isPublic(method.getModifiers())) {
                methods.put(method.getName(), method);
            }
        }
        return methods;
    }

    private String run() {
        read();
        while (calls < CALLS && !isWrong) {
            int what = random.nextInt(100);
            if (what < 3) {
                read();
            } else if (what < 10) {
                script();
            } else if (what < 40) {
                change(CHANGES.get(random.nextInt(CHANGES.size())));
            } else {
                any(NAMES.get(random.nextInt(NAMES.size())));
            }
        }
        return isWrong ? told.toString() : "";
    }

    private void change(String name) {
        any(name);
        for (String seen : SEEN) {
            call(seen);
        }
    }

    private void any(String name) {
        String kinds = ARGUMENTS.get(name);
        String[] kind = kinds.isEmpty() ? new String[0] : kinds.split(" ");
        int[] arguments = new int[kind.length];
        for (int i = 0; i < kind.length; i++) {
            arguments[i] = argument(kind[i]);
        }
        call(name, arguments);
    }

    private int between(int least, int most) {
        return least + random.nextInt(most - least + 1);
    }

    /** Mostly a right one, sometimes one beside the edge, seldom a wild one. */
    private int argument(String kind) {
        int least = "lskdw".indexOf(kind.charAt(0)) >= 0 ? 1 : 0;
        int most = switch (kind.charAt(0)) {
            case 'x' -> model.setting(0) - 1;
            case 'y' -> model.setting(1) - 1;
            case 't' -> 255;
            case 'h', 'l' -> model.setting(2);
            case 'w', 'k' -> 6;
            case 's', 'd' -> 20;
            case 'b' -> 255;
            default -> Integer.parseInt(kind.substring(1)) - 1;
        };
        least = kind.equals("b") ? -255 : least;
        int dice = random.nextInt(60);
        if (dice == 0) {
            return least - 1;
        }
        if (dice == 1) {
            return most + 1;
        }
        if (dice == 2) {
            int[] wild = {Integer.MIN_VALUE, Integer.MAX_VALUE, -1, 16, 12, 255, 256, 1 << 16, random.nextInt()};
            return wild[random.nextInt(wild.length)];
        }
        boolean isSmall = random.nextInt(4) == 0;
        return between(least, isSmall ? Math.min(most, least + 2) : most);
    }

    private void read() {
        put(reliefText());
        call("readText");
        ends();
        call("setting", 0);
        call("setting", 1);
        for (String seen : SEEN) {
            call(seen);
        }
    }

    private void script() {
        put(scriptText());
        call("runScript");
        ends();
        for (String seen : SEEN) {
            call(seen);
        }
    }

    private void ends() {
        call("errorCode");
        call("errorPosition");
    }

    private void put(String text) {
        call("truncate", 0);
        byte[] bytes = text.getBytes(StandardCharsets.ISO_8859_1);
        for (int i = 0; i < bytes.length; i += 20) {
            call("feed", Check.word(bytes, i), Check.word(bytes, i + 4), Check.word(bytes, i + 8),
                    Check.word(bytes, i + 12), Check.word(bytes, i + 16));
        }
        call("truncate", Math.min(bytes.length, 900));
    }

    private String blank() {
        return random.nextInt(6) == 0 ? " \n " : " ";
    }

    private int number(int least, int most) {
        int dice = random.nextInt(150);
        return dice == 0 ? Math.max(0, least - 1) : dice == 1 ? most + 1 : between(least, most);
    }

    private String reliefText() {
        StringBuilder text = new StringBuilder();
        int width = between(1, random.nextInt(3) == 0 ? 16 : 6);
        int rows = between(1, random.nextInt(3) == 0 ? 12 : 5);
        int greatest = between(1, 20);
        if (random.nextInt(8) > 0) {
            text.append("panel").append(blank()).append(width).append(blank()).append(rows).append(';');
        } else {
            width = 4;
            rows = 4;
        }
        if (random.nextInt(8) > 0) {
            text.append("steps ").append(greatest).append(blank()).append("glass ").append(number(10, 99));
            text.append(" base").append(blank()).append(number(0, Math.min(greatest, between(0, 20)))).append(';');
        }
        if (random.nextBoolean()) {
            text.append("wall ").append(number(1, 4)).append(blank()).append(';');
        }
        if (random.nextBoolean()) {
            text.append("slope").append(blank()).append(number(0, 9)).append(';');
        }
        int told = Math.min(rows + (random.nextInt(30) == 0 ? 1 : 0), between(0, 20));
        int gray = random.nextInt(256);
        boolean isGray = random.nextInt(4) == 0;
        for (int y = 0; y < told; y++) {
            text.append("row");
            for (int x = 0; x < width; x++) {
                text.append(blank()).append(isGray ? gray : random.nextInt(5) == 0 ? 255 : random.nextInt(256));
            }
            text.append(';');
        }
        if (random.nextInt(40) == 0) {
            text.append("panel 2 2;");
        }
        return spoilt(text);
    }

    private String scriptText() {
        StringBuilder text = new StringBuilder();
        int length = random.nextInt(10) == 0 ? 31 : between(0, 8);
        commands(text, length, 0);
        return spoilt(text);
    }

    private void commands(StringBuilder text, int length, int depth) {
        for (int n = 0; n < length; n++) {
            int x = number(0, Math.min(20, model.setting(0) - 1));
            int y = number(0, Math.min(20, model.setting(1) - 1));
            int height = between(model.setting(4), model.setting(2));
            switch (random.nextInt(14)) {
                case 0 -> text.append("tone ").append(x).append(' ').append(y).append(' ').append(number(0, 255));
                case 1, 2 -> text.append("height ").append(x).append(' ').append(y).append(' ').append(height);
                case 3 -> text.append("fill ").append(x).append(' ').append(y).append(" 1 1").append(blank()).append(height);
                case 4, 5 -> text.append("stamp ").append(number(0, 2)).append(' ').append(number(0, 3)).append(' ')
                        .append(x).append(blank()).append(y);
                case 6 -> text.append("smooth ").append(number(1, 20));
                case 7 -> text.append("repair");
                case 8 -> text.append("ease");
                case 9 -> text.append("dither").append(blank());
                case 10 -> text.append("polish");
                case 11 -> text.append("invert");
                case 12 -> text.append("mirror");
                default -> {
                    text.append("repeat ").append(number(1, random.nextInt(3) == 0 ? 20 : 4)).append('(');
                    commands(text, depth < 2 || random.nextInt(20) == 0 ? between(0, 4 - Math.min(depth, 4)) : 0, depth + 1);
                    text.append(')');
                }
            }
            text.append(';');
        }
    }

    /** Sometimes a byte is taken away or put in. */
    private String spoilt(StringBuilder text) {
        if (random.nextInt(5) == 0 && text.length() > 0) {
            int at = random.nextInt(text.length());
            String signs = ";() \nabz059r\t\0A\u00ff";
            if (random.nextBoolean()) {
                text.deleteCharAt(at);
            } else {
                text.insert(at, signs.charAt(random.nextInt(signs.length())));
            }
        }
        if (random.nextInt(30) == 0) {
            text.setLength(random.nextInt(text.length() + 1));
        }
        return text.toString();
    }

    private void call(String name, int... arguments) {
        if (calls >= CALLS || isWrong) {
            return;
        }
        calls++;
        Object got = invoke(METHODS.get(name), builder, arguments);
        Object want = invoke(MODEL_METHODS.get(name), model, arguments);
        told.append(name).append(java.util.Arrays.toString(arguments)).append(" = ").append(want).append('\n');
        if (!want.equals(got)) {
            isWrong = true;
            told.append("answered: ").append(got).append('\n');
        }
    }

    private static Object invoke(Method method, Object object, int[] arguments) {
        Object[] boxed = new Object[arguments.length];
        for (int i = 0; i < arguments.length; i++) {
            boxed[i] = arguments[i];
        }
        try {
            return method.invoke(object, boxed);
        } catch (InvocationTargetException e) {
            return e.getCause().getClass().getName();
        } catch (IllegalAccessException e) {
            throw new IllegalStateException(e);
        }
    }
}
