/** An object with something everywhere, and all that can be seen of it: whether a call changes nothing shows by it. */
final class Whole {
    interface Use {
        Object of(ReliefBuilder builder);
    }

    private Whole() {
    }

    /** Three columns and two rows; stamps, a report, a slot, three calls to undo, an error, a text in the buffer. */
    static ReliefBuilder object() {
        return object("mirror;");
    }

    /** The same with this text in the buffer. */
    static ReliefBuilder object(String text) {
        ReliefBuilder b = Check.relief("panel 3 2;steps 9 glass 70 base 1;wall 3;slope 2;row 9 99 199;row 255 0 66;");
        b.putStamp(0, 1, 0, 2, 3);
        b.putStamp(1, 3, 1, 6, 20);
        b.putStamp(2, 0, 1, 1, 2);
        b.setHeight(0, 0, 4);
        b.save(0);
        b.report();
        b.setHeight(2, 1, 9);
        b.setTone(1, 1, 130);
        failToRead(b, "wall 3;oh");
        Check.put(b, text);
        return b;
    }

    private static void failToRead(ReliefBuilder b, String text) {
        Check.put(b, text);
        try {
            b.readText();
        } catch (IllegalArgumentException e) {
            // This is what the text is for.
        }
    }

    /** All but the buffer and the latest error; the calls that show it take away what can be undone. */
    static String seen(ReliefBuilder b) {
        StringBuilder text = new StringBuilder(Check.look(b)).append("|report ").append(report(b)).append("|undo");
        for (int n = 0; n < 8; n++) {
            text.append(' ').append(b.undo()).append(' ').append(Check.picture(b)).append(' ').append(Check.tones(b));
        }
        for (int slot = 0; slot < 2; slot++) {
            int number = slot;
            text.append("|slot ").append(answer(() -> b.restore(number))).append(' ').append(Check.picture(b));
        }
        return text.toString();
    }

    private static String report(ReliefBuilder b) {
        StringBuilder text = new StringBuilder();
        for (int i = 0; i < 30; i++) {
            int at = i;
            text.append(answer(() -> b.reportByte(at))).append(' ');
        }
        return text.toString();
    }

    /** The latest error and the buffer, which is read as a script. */
    static String texts(ReliefBuilder b) {
        return b.errorCode() + " " + b.errorPosition() + "|" + answer(() -> b.feed(0, 0, 0, 0, 0)) + " "
                + answer(b::runScript) + " " + b.errorCode() + " " + b.errorPosition() + " " + Check.picture(b);
    }

    static String all(ReliefBuilder b) {
        return seen(b) + "|" + texts(b);
    }

    private static Object answer(Check.Call call) {
        try {
            return call.answer();
        } catch (RuntimeException e) {
            return e.getClass().getSimpleName();
        }
    }

    /** A call that must not change anything. */
    static void still(String what, Object want, Use call) {
        ReliefBuilder b = object();
        Check.due(what, want, () -> call.of(b));
        Check.due(what + " changes nothing", all(object()), () -> all(b));
    }

    static void index(String what, Use call) {
        still(what, IndexOutOfBoundsException.class.getName(), call);
    }

    static void argument(String what, Use call) {
        still(what, IllegalArgumentException.class.getName(), call);
    }

    static void state(String what, Use call) {
        still(what, IllegalStateException.class.getName(), call);
    }
}
