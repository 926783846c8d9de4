/** Promise 5: scripts and their errors. */
public final class ScriptTest {
    public static void main(String[] args) {
        commands();
        sameAsMethods();
        repeats();
        sixty();
        endsAtExceptions();
        firstErrors();
        rangeErrors();
        depthErrors();
        countErrors();
        whatAnErrorChanges();
        undo();
        Check.end("ScriptTest");
    }

    private static void commands() {
        ReliefBuilder b = Check.relief("panel 3 2;steps 9 glass 70 base 0;");
        Check.due("5: none", 0, () -> Check.run(b, ""));
        Check.due("5: none", 0, () -> Check.run(b, "  \n"));
        Check.due("5: tone", 1, () -> Check.run(b, "tone 1 1 0;"));
        Check.due("5: tone", "255 0 255 / 255 255 255", () -> Check.tones(b));
        Check.due("5: tone", "0 9 0 / 0 0 0", () -> Check.picture(b));
        Check.due("5: height", 1, () -> Check.run(b, "height 2 0 5;"));
        Check.due("5: height", "0 9 0 / 0 0 5", () -> Check.picture(b));
        Check.due("5: fill", 1, () -> Check.run(b, "fill 0 0 2 1 4;"));
        Check.due("5: fill", "0 9 0 / 4 4 5", () -> Check.picture(b));
        Check.due("5: mirror", 1, () -> Check.run(b, "mirror;"));
        Check.due("5: mirror", "0 9 0 / 5 4 4", () -> Check.picture(b));
        Check.due("5: smooth", 1, () -> Check.run(b, "smooth 3;"));
        Check.due("5: smooth", "6 9 6 / 5 6 4", () -> Check.picture(b));
        b.putStamp(2, 3, 1, 1, 2);
        Check.due("5: stamp", 1, () -> Check.run(b, "stamp 2 3 0 1;"));
        Check.due("5: stamp", "8 9 6 / 5 6 4", () -> Check.picture(b));
        Check.due("5: ease", 1, () -> Check.run(b, "ease;"));
        Check.due("5: ease", "6 7 5 / 5 6 4", () -> Check.picture(b));
        Check.due("5: invert", 1, () -> Check.run(b, "invert;"));
        Check.due("5: invert", "9 0 9 / 9 9 9", () -> Check.picture(b));
        Check.due("5: all in one", 3, () -> Check.run(b, " invert ;\nmirror;fill 0 0 3 2 0;"));
        Check.due("5: all in one", "0 0 0 / 0 0 0", () -> Check.picture(b));
        Check.due("5: repair", 1, () -> Check.run(b, "repair;"));
        Check.due("5: commands that change nothing count", 2, () -> Check.run(b, "height 0 0 6;repair;"));
        Check.due("5: repair", "0 0 0 / 0 0 0", () -> Check.picture(b));
        Check.due("6: none", 0, b::errorCode);
        Check.due("7: none", -1, b::errorPosition);
    }

    /** Each command must do what its method does. */
    private static void sameAsMethods() {
        String text = "panel 4 3;steps 9 glass 70 base 1;row 9 99 180 30;row 70 200 5 120;row 255 0 66 130;";
        String[] commands = {"dither;", "polish;", "ease;", "invert;", "mirror;", "repair;"};
        for (String command : commands) {
            ReliefBuilder b = Check.relief(text);
            ReliefBuilder other = Check.relief(text);
            b.fill(0, 1, 2, 2, 3);
            other.fill(0, 1, 2, 2, 3);
            Check.due("5: " + command, 1, () -> Check.run(b, command));
            switch (command) {
                case "dither;" -> other.dither();
                case "polish;" -> other.polish();
                case "ease;" -> other.ease();
                case "invert;" -> other.invert();
                case "mirror;" -> other.mirror();
                default -> other.repair();
            }
            Check.due("5: " + command, Check.look(other), () -> Check.look(b));
            Check.due("5: " + command + " can be undone", other.undo(), b::undo);
        }
    }

    private static void repeats() {
        ReliefBuilder b = Check.relief("panel 3 2;steps 20 glass 70 base 0;");
        b.putStamp(1, 0, 1, 1, 1);
        Check.due("5: five times", 5, () -> Check.run(b, "repeat 5(stamp 1 0 0 0;);"));
        Check.due("5: five times", 5, () -> b.height(0, 0));
        Check.due("5: two and two", 14, () -> Check.run(b, "repeat 2(stamp 1 0 1 0;repeat 3 ( stamp 1 0 2 0 ;"
                + "stamp 1 0 2 1;););"));
        Check.due("5: two and two", "0 0 6 / 5 2 6", () -> Check.picture(b));
        Check.due("5: behind a repeat", 4, () -> Check.run(b, "repeat 1(mirror;);mirror;repeat 2(mirror;);"));
        Check.due("5: behind a repeat", "0 0 6 / 5 2 6", () -> Check.picture(b));
        Check.due("5: empty ones", 0, () -> Check.run(b, "repeat 20(repeat 20(););"));
        Check.due("5: an empty one in between", 2, () -> Check.run(b, "stamp 1 0 0 0;repeat 3();stamp 1 0 0 1;"));
        Check.due("5: an empty one in between", "1 0 6 / 6 2 6", () -> Check.picture(b));
        Check.due("5: two within one", 9, () -> Check.run(b, "repeat 3(repeat 1(stamp 1 0 0 0;);repeat 2("
                + "stamp 1 0 1 1;););"));
        Check.due("5: two within one", "1 6 6 / 9 2 6", () -> Check.picture(b));
    }

    private static void sixty() {
        ReliefBuilder b = Check.relief("panel 3 1;steps 20 glass 70 base 0;");
        b.putStamp(1, 0, 1, 1, 1);
        Check.due("5: sixty", 60, () -> Check.run(b, "repeat 20(stamp 1 0 0 0;stamp 1 0 1 0;stamp 1 0 2 0;);"));
        Check.due("5: sixty", "20 20 20", () -> Check.picture(b));
        b.fill(0, 0, 3, 1, 0);
        Check.due("5: no more than sixty", 60, () -> Check.run(b, "repeat 19(stamp 1 0 0 0;stamp 1 0 1 0;"
                + "stamp 1 0 2 0;);stamp 1 0 0 0;stamp 1 0 1 0;repeat 3(stamp 1 0 2 0;);height 0 0 0;"));
        Check.due("5: no more than sixty", "20 20 20", () -> Check.picture(b));
        b.fill(0, 0, 3, 1, 0);
        Check.due("5: within two", 60, () -> Check.run(b, "repeat 3(height 2 0 0;repeat 20(stamp 1 0 2 0;););"
                + "height 1 0 7;"));
        Check.due("5: within two", "0 0 17", () -> Check.picture(b));
    }

    private static void endsAtExceptions() {
        ends("tone 3 0 0;", 0, 0);
        ends("height 0 0 7;tone 0 2 0;height 0 0 2;", 1, 7);
        ends("height 0 0 7;height 3 0 3;height 0 0 2;", 1, 7);
        ends("height 0 0 7;height 0 2 3;height 0 0 2;", 1, 7);
        ends("height 0 0 7;height 1 1 10;height 0 0 2;", 1, 7);
        ends("height 0 0 7;height 1 1 0;height 0 0 2;", 1, 7);
        ends("height 0 0 7;fill 3 0 1 1 3;height 0 0 2;", 1, 7);
        ends("height 0 0 7;fill 0 0 4 1 3;height 0 0 2;", 1, 7);
        ends("height 0 0 7;fill 0 0 1 3 3;height 0 0 2;", 1, 7);
        ends("height 0 0 7;fill 0 0 0 1 3;height 0 0 2;", 1, 7);
        ends("height 0 0 7;fill 0 0 1 0 3;height 0 0 2;", 1, 7);
        ends("height 0 0 7;fill 0 0 1 1 0;height 0 0 2;", 1, 7);
        ends("height 0 0 7;fill 0 0 1 1 10;height 0 0 2;", 1, 7);
        ends("height 0 0 7;stamp 0 0 0 0;height 0 0 2;", 1, 7);
        ends("height 0 0 7;stamp 3 0 0 0;height 0 0 2;", 1, 7);
        ends("height 0 0 7;stamp 2 4 0 0;height 0 0 2;", 1, 7);
        ends("height 0 0 7;stamp 2 0 3 0;height 0 0 2;", 1, 7);
        ends("height 0 0 7;stamp 2 0 0 2;height 0 0 2;", 1, 7);
        ends("height 0 0 7;smooth 0;height 0 0 2;", 1, 7);
        ends("repeat 5(stamp 2 0 0 0;repeat 2(stamp 2 0 0 0;stamp 2 1 0 0;);stamp 2 0 0 0;);height 0 0 9;", 2, 3);
    }

    private static void ends(String script, int done, int height) {
        ReliefBuilder b = Check.relief("panel 3 2;steps 9 glass 70 base 1;");
        b.putStamp(2, 0, 1, 1, 1);
        Check.due("5: " + script, done, () -> Check.run(b, script));
        Check.due("5: " + script, done == 0 ? 1 : height, () -> b.height(0, 0));
        Check.due("5: " + script, 5, () -> b.volume() - b.height(0, 0));
        Check.due("6: no error of a text", 0, b::errorCode);
        Check.due("5: undo", done == 0 ? -1 : 0, b::undo);
    }

    private static void firstErrors() {
        error("panel 4 4;", 1, 0);
        error("tone", 1, 4);
        error("tone;", 1, 4);
        error("tone 0 0;", 1, 8);
        error("tone 0 0 0 0;", 1, 11);
        error("tone 0 0 0", 1, 10);
        error("height 0 1;", 1, 10);
        error("fill 0 0 1 1;", 1, 12);
        error("stamp 0 0 1;", 1, 11);
        error("smooth;", 1, 6);
        error("smooth 1 1;", 1, 9);
        error("repair 1;", 1, 7);
        error("ease(", 1, 4);
        error("dither dither;", 1, 7);
        error("polish", 1, 6);
        error("invert;;", 1, 7);
        error("lighten 3;", 1, 0);
        error("mirror;)", 1, 7);
        error("(mirror;);", 1, 0);
        error("repeat(mirror;);", 1, 6);
        error("repeat 2 mirror;", 1, 9);
        error("repeat 2(mirror;)", 1, 17);
        error("repeat 2(mirror;) mirror;", 1, 18);
        error("repeat 2(mirror);", 1, 15);
        error("repeat 2(mirror;", 1, 16);
        error("repeat 2(mirror; ", 1, 17);
        error("repeat 2(;);", 1, 9);
        error("repeat 2", 1, 8);
        error("mirror;\t", 1, 7);
        error("height 0 0 00001;", 1, 11);
        error("mirrored;", 1, 0);
        error("mirrorings;", 1, 0);
        error("mirror mirror; smooth 99;", 1, 7);
    }

    private static void rangeErrors() {
        error("tone 0 0 256;", 2, 9);
        error("tone 21 0 255;", 2, 5);
        error("tone 0 21 255;", 2, 7);
        error("height 21 0 0;", 2, 7);
        error("height 0 21 0;", 2, 9);
        error("height 0 0 21;", 2, 11);
        error("fill 0 0 0 0 21;", 2, 13);
        error("fill 0 0 21 0 2;", 2, 9);
        error("stamp 21 0 0 0;", 2, 6);
        error("stamp 0 0 0 21;", 2, 12);
        error("smooth 21;", 2, 7);
        error("repeat 0();", 2, 7);
        error("repeat 21();", 2, 7);
        error("repeat 9999();", 2, 7);
        ReliefBuilder b = Check.relief("panel 1 1;");
        Check.due("5: greatest numbers", 0, () -> Check.run(b, "tone 20 20 255;height 20 20 20;"));
        Check.due("5: greatest numbers", 0, () -> Check.run(b, "stamp 20 20 20 20;fill 20 20 20 20 20;"));
        Check.due("5: greatest numbers", 20, () -> Check.run(b, "repeat 20(smooth 20;);"));
        Check.due("5: least numbers", 1, () -> Check.run(b, "tone 0 0 0;smooth 0;repeat 1();"));
    }

    private static void depthErrors() {
        error("repeat 2(repeat 2(repeat 2();););", 3, 18);
        error("repeat 2(mirror;repeat 2(mirror;repeat", 3, 32);
        ReliefBuilder b = Check.relief("panel 1 1;");
        Check.due("5: one behind another", 0, () -> Check.run(b, "repeat 2(repeat 2();repeat 2(););repeat 2();"));
    }

    private static void countErrors() {
        error("(".repeat(900), 1, 0);
        String thirty = "ease;".repeat(30);
        ReliefBuilder b = Check.relief("panel 1 1;");
        Check.due("5: thirty", 30, () -> Check.run(b, thirty));
        error(thirty + "ease;", 5, 150);
        error(thirty + "repeat 2();", 5, 150);
        error(thirty + "oh;", 1, 150);
        error(thirty + ")", 1, 150);
        error("repeat 2(" + "ease;".repeat(29) + "ease;);", 5, 154);
        error("repeat 2(repeat 2(" + "ease;".repeat(28) + "repeat", 3, 158);
        error("repeat 2(repeat 2(" + "ease;".repeat(28) + "ease", 5, 158);
        Check.due("5: with two repeats", 56, () -> Check.run(b, "repeat 2(repeat 1(" + "ease;".repeat(28) + "););"));
    }

    private static void whatAnErrorChanges() {
        ReliefBuilder b = Check.relief("panel 3 2;");
        b.setHeight(1, 1, 5);
        Check.still("5: an error", b, () -> {
            Check.put(b, "height 0 0 3;invert;oh;");
            Check.argument("5: an error", b::runScript);
        });
        Check.argument("5: the buffer is empty", () -> b.truncate(1));
        Check.due("5: undo is not changed", 0, b::undo);
        Check.put(b, "mirror;");
        b.runScript();
        Check.argument("5: the buffer is empty", () -> b.truncate(1));
        Check.due("6: none", 0, b::errorCode);
    }

    private static void undo() {
        ReliefBuilder b = Check.relief("panel 3 2;row 1 2 3;");
        String before = Check.look(b);
        Check.run(b, "tone 0 1 9;fill 0 0 3 1 2;mirror;height 1 1 7;");
        Check.due("5, 63: as a whole", 0, b::undo);
        Check.due("5, 63: as a whole", before, () -> Check.look(b));
        Check.run(b, "mirror;mirror;");
        Check.due("5, 63: it changed nothing", -1, b::undo);
    }

    private static void error(String script, int code, int position) {
        ReliefBuilder b = new ReliefBuilder();
        Check.put(b, script);
        Check.argument("5: " + script, b::runScript);
        Check.due("6: " + script, code, b::errorCode);
        Check.due("7: " + script, position, b::errorPosition);
        Check.due("5: nothing is done", 16, b::volume);
    }
}
