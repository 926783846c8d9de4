import java.nio.charset.StandardCharsets;

/**
 * What the tests use: answers that are due, exceptions that are due, texts, and what can be seen of an object. An
 * object answers 512 calls as it should, and the tests keep to that: so they make many objects and look seldom.
 */
final class Check {
    interface Call {
        Object answer();
    }

    private static int wrong;
    private static int checks;
    private static String place = "";

    private Check() {
    }

    /** Tells where in the document the checks that follow belong. */
    static void within(String newPlace) {
        place = newPlace;
    }

    static int count() {
        return checks;
    }

    static void due(String what, Object want, Call call) {
        checks++;
        Object got;
        try {
            got = call.answer();
        } catch (RuntimeException e) {
            got = e.getClass().getName();
        }
        if (!want.equals(got)) {
            wrong++;
            System.out.println(place + what + ": answered " + got + ", due is " + want);
        }
    }

    /** The exception must be of this very class, as the machine throws others that are below it. */
    static void index(String what, Call call) {
        due(what, IndexOutOfBoundsException.class.getName(), call);
    }

    static void argument(String what, Call call) {
        due(what, IllegalArgumentException.class.getName(), call);
    }

    static void state(String what, Call call) {
        due(what, IllegalStateException.class.getName(), call);
    }

    /** Calls that must not change anything. */
    static void still(String what, ReliefBuilder builder, Runnable calls) {
        String before = look(builder);
        calls.run();
        due(what + " change nothing", before, () -> look(builder));
    }

    static void end(String test) {
        System.out.println(test + ": " + checks + " checks, " + wrong + " wrong");
        if (wrong != 0) {
            System.exit(1);
        }
    }

    /** Makes the buffer, which must be empty, hold this text. */
    static void put(ReliefBuilder builder, String text) {
        byte[] bytes = text.getBytes(StandardCharsets.ISO_8859_1);
        for (int i = 0; i < bytes.length; i += 20) {
            builder.feed(word(bytes, i), word(bytes, i + 4), word(bytes, i + 8), word(bytes, i + 12),
                    word(bytes, i + 16));
        }
        builder.truncate(bytes.length);
    }

    static int word(byte[] bytes, int from) {
        int word = 0;
        for (int i = from; i < from + 4; i++) {
            word = word << 8 | (i < bytes.length ? bytes[i] & 255 : 0);
        }
        return word;
    }

    static int read(ReliefBuilder builder, String text) {
        put(builder, text);
        return builder.readText();
    }

    static int run(ReliefBuilder builder, String text) {
        put(builder, text);
        return builder.runScript();
    }

    static ReliefBuilder relief(String text) {
        ReliefBuilder builder = new ReliefBuilder();
        read(builder, text);
        return builder;
    }

    /** A panel with these heights, told row by row from the uppermost one: "3 4 / 1 2" is two rows. */
    static ReliefBuilder heights(String settings, String picture) {
        String[] rows = picture.trim().split(" */ *");
        int width = rows[0].trim().split(" +").length;
        ReliefBuilder builder = relief("panel " + width + " " + rows.length + ";" + settings);
        for (int i = 0; i < rows.length; i++) {
            String[] cells = rows[i].trim().split(" +");
            for (int x = 0; x < width; x++) {
                builder.setHeight(x, rows.length - 1 - i, Integer.parseInt(cells[x]));
            }
        }
        return builder;
    }

    /** The heights as heights() takes them. */
    static String picture(ReliefBuilder builder) {
        return rows(builder, (x, y) -> builder.height(x, y));
    }

    static String tones(ReliefBuilder builder) {
        return rows(builder, (x, y) -> builder.tone(x, y));
    }

    interface OfCell {
        Object at(int x, int y);
    }

    static String rows(ReliefBuilder builder, OfCell cell) {
        int width = builder.setting(0);
        StringBuilder picture = new StringBuilder();
        for (int y = builder.setting(1) - 1; y >= 0; y--) {
            for (int x = 0; x < width; x++) {
                picture.append(x > 0 ? " " : "").append(cell.at(x, y));
            }
            picture.append(y > 0 ? " / " : "");
        }
        return picture.toString();
    }

    static String reportText(ReliefBuilder builder, int length) {
        StringBuilder text = new StringBuilder();
        for (int i = 0; i < length; i++) {
            text.append((char) builder.reportByte(i));
        }
        return text.toString();
    }

    static String look(ReliefBuilder builder) {
        StringBuilder text = new StringBuilder();
        for (int what = 0; what < 7; what++) {
            text.append(builder.setting(what)).append(' ');
        }
        text.append('|').append(tones(builder)).append('|').append(picture(builder)).append('|');
        for (int rack = 0; rack < 3; rack++) {
            for (int place = 0; place < 4; place++) {
                text.append(builder.stampAt(rack, place)).append(' ');
            }
        }
        return text.toString();
    }
}
