/** Section 8 and promise 5: scripts and their errors. */
final class ScriptBounds {
    private static final String PANEL = "panel 3 2;steps 9 glass 70 base 1;";
    private static final String[] PLAIN_COMMANDS = {"repair", "ease", "dither", "polish", "invert", "mirror"};
    /** Each command with numbers, all of which are the least ones that the text may have. */
    private static final String[] NUMBERED = {"tone 0 0 0", "height 0 0 0", "fill 0 0 0 0 0", "stamp 0 0 0 0",
        "smooth 0"};

    private ScriptBounds() {
    }

    private static ReliefBuilder right(String script, int done) {
        ReliefBuilder b = Check.relief(PANEL);
        b.putStamp(2, 0, 1, 1, 1);
        Check.due(script, done, () -> Check.run(b, script));
        Check.due(script + " code", 0, b::errorCode);
        Check.due(script + " position", -1, b::errorPosition);
        return b;
    }

    private static void wrong(String script, int code, int position) {
        ReliefBuilder b = Check.relief(PANEL);
        Check.put(b, script);
        Check.argument(script, b::runScript);
        Check.due(script + " code", code, b::errorCode);
        Check.due(script + " position", position, b::errorPosition);
        Check.due(script + " does nothing", "1 1 1 / 1 1 1", () -> Check.picture(b));
    }

    @Sentence(of = "section 8", says = "script = { command \";\" }")
    static void commands() {
        right("", 0);
        right(" \n", 0);
        right("ease;", 1);
        right("ease ; mirror;", 2);
        wrong(";", 1, 0);
        wrong("ease", 1, 4);
        wrong("ease;;", 1, 5);
        wrong("ease mirror;", 1, 5);
    }

    @Sentence(of = "section 8", says = "command = \"tone\" N N N | \"height\" N N N")
    static void grammar() {
        for (String word : PLAIN_COMMANDS) {
            right(word + ";", 1);
            wrong(word + " 1;", 1, word.length() + 1);
            wrong(word + "(", 1, word.length());
        }
        for (String shape : NUMBERED) {
            wrong(shape + " 0;", 1, shape.length() + 1);
            wrong(shape.substring(0, shape.length() - 2) + ";", 1, shape.length() - 2);
            wrong(shape.split(" ")[0] + ";", 1, shape.split(" ")[0].length());
        }
        right("repeat 1();", 0);
        right("repeat 1(ease;mirror;);", 2);
        wrong("repeat();", 1, 6);
        wrong("repeat 1;", 1, 8);
        wrong("repeat 1 ease;", 1, 9);
        wrong("repeat 1(ease);", 1, 13);
        wrong("repeat 1(ease;;);", 1, 14);
        wrong("repeat 1(ease;", 1, 14);
        wrong("repeat 1(ease;)", 1, 15);
        wrong("repeat 1(ease;));", 1, 15);
        wrong("ease;)", 1, 5);
        wrong("bone 0 0 0;", 1, 0);
        wrong("tons 0 0 0;", 1, 0);
        wrong("lighten 1;", 1, 0);
        wrong("undo;", 1, 0);
        wrong("wall 3;", 1, 0);
    }

    @Sentence(of = "section 8", says = "The tokens are those of a relief.")
    static void tokens() {
        right("\n ease\n;smooth1;", 2);
        right("smooth 0001;", 1);
        wrong("smooth 00001;", 1, 7);
        wrong("smooth 9999;", 2, 7);
        wrong("mirrorzz;", 1, 0);
        wrong("mirrorzzz;", 1, 0);
        wrong("ease;abcdefghi", 1, 5);
        wrong("ease\t;", 1, 4);
        wrong("Ease;", 1, 0);
        wrong("smooth -1;", 1, 7);
        wrong("ease;\u00ff", 1, 5);
        wrong("ease;\0", 1, 5);
    }

    @Sentence(of = "section 8", says = "\"tone\" calls setTone(x, y, tone)")
    static void calls() {
        Check.due("tone", "255 255 0 / 255 255 255", () -> Check.tones(right("tone 2 1 0;", 1)));
        Check.due("tone", "1 1 9 / 1 1 1", () -> Check.picture(right("tone 2 1 0;", 1)));
        Check.due("height", "1 1 1 / 1 1 9", () -> Check.picture(right("height 2 0 9;", 1)));
        Check.due("fill", "1 5 5 / 1 1 1", () -> Check.picture(right("fill 1 1 2 1 5;", 1)));
        Check.due("fill", "1 5 1 / 1 5 1", () -> Check.picture(right("fill 1 0 1 2 5;", 1)));
        Check.due("stamp", "1 1 2 / 1 1 1", () -> Check.picture(right("stamp 2 0 2 1;", 1)));
        Check.due("smooth", "6 3 1 / 9 6 3", () -> Check.picture(right("height 0 0 9;smooth 3;", 2)));
        Check.due("repair", "1 1 1 / 1 1 1", () -> Check.picture(right("height 2 0 9;repair;", 2)));
        Check.due("ease", "1 1 2 / 1 1 1", () -> Check.picture(right("height 2 1 9;ease;", 2)));
        Check.due("dither", "1 1 1 / 1 1 1", () -> Check.picture(right("height 2 1 9;dither;", 2)));
        Check.due("polish", "1 1 8 / 1 1 1", () -> Check.picture(right("height 2 1 9;polish;", 2)));
        Check.due("invert", "9 9 9 / 9 9 9", () -> Check.picture(right("invert;", 1)));
        Check.due("mirror", "9 1 1 / 1 1 1", () -> Check.picture(right("height 2 1 9;mirror;", 2)));
    }

    @Sentence(of = "section 8", says = "\"repeat\" does the commands in brackets N times (1 to 20).")
    static void repeat() {
        wrong("repeat 0(stamp 2 0 0 0;);", 2, 7);
        Check.due("once", 2, () -> right("repeat 1(stamp 2 0 0 0;);", 1).height(0, 0));
        Check.due("twice", 3, () -> right("repeat 2(stamp 2 0 0 0;);", 2).height(0, 0));
        Check.due("within one", 7, () -> right("repeat 2(repeat 3(stamp 2 0 0 0;););", 6).height(0, 0));
        right("repeat 20(stamp 2 0 0 0;);", 20);
        wrong("repeat 21(stamp 2 0 0 0;);", 2, 7);
        ReliefBuilder b = Check.relief("panel 1 1;steps 20 glass 80 base 0;");
        b.putStamp(1, 0, 1, 1, 1);
        Check.due("19 times", 19, () -> Check.run(b, "repeat 19(stamp 1 0 0 0;);"));
        Check.due("19 times", 19, () -> b.height(0, 0));
        b.setHeight(0, 0, 0);
        Check.due("20 times", 20, () -> Check.run(b, "repeat 20(stamp 1 0 0 0;);"));
        Check.due("20 times", 20, () -> b.height(0, 0));
        right("repeat 20();", 0);
        right("repeat 20(repeat 20();ease;);", 20);
    }

    @Sentence(of = "section 8", says = "The numbers are 0 to 255 for a tone and 0 to 20 for all others.")
    static void numbers() {
        for (String shape : NUMBERED) {
            String[] tokens = shape.split(" ");
            String ahead = tokens[0];
            for (int n = 1; n < tokens.length; n++) {
                int most = tokens[0].equals("tone") && n == 3 ? 255 : 20;
                String behind = " 0".repeat(tokens.length - 1 - n) + ";";
                right(ahead + " " + most + behind, tokens[0].equals("tone") && n == 3 || n == 1
                        && tokens[0].equals("smooth") ? 1 : 0);
                wrong(ahead + " " + (most + 1) + behind, 2, ahead.length() + 1);
                ahead += " 0";
            }
        }
        Check.due("tone 0", 0, () -> right("tone 0 0 0;", 1).tone(0, 0));
        Check.due("tone 254", 254, () -> right("tone 0 0 254;", 1).tone(0, 0));
        ReliefBuilder b = Check.relief("panel 16 12;steps 20 glass 80 base 0;");
        Check.due("0 and 20 are right", 4,
                () -> Check.run(b, "height 15 11 20;height 15 11 0;fill 0 0 16 12 20;smooth 20;"));
    }

    private static void ends(String command) {
        String script = "height 0 0 7;" + command + ";height 0 0 2;";
        ReliefBuilder b = right(script, 1);
        Check.due(script, "1 1 1 / 7 1 1", () -> Check.picture(b));
    }

    private static void goesOn(String command) {
        String script = "height 0 0 7;" + command + ";height 0 0 2;";
        ReliefBuilder b = right(script, 3);
        Check.due(script, 2, () -> b.height(0, 0));
    }

    @Sentence(of = "section 8", says = "A script ends at a command whose method would throw an exception")
    static void endsAtException() {
        for (String command : new String[] {"tone 3 0 9", "tone 0 2 9", "height 3 0 5", "height 0 2 5", "height 1 0 0",
            "height 1 0 10", "fill 3 0 1 1 5", "fill 0 2 1 1 5", "fill 1 0 0 1 5", "fill 1 0 3 1 5", "fill 1 0 1 0 5",
            "fill 0 1 1 2 5", "fill 1 0 1 1 0", "fill 1 0 1 1 10", "stamp 3 0 1 0", "stamp 2 4 1 0", "stamp 2 0 3 0",
            "stamp 2 0 0 2", "stamp 2 1 1 0", "stamp 0 0 1 0", "smooth 0"}) {
            ends(command);
        }
        for (String command : new String[] {"tone 2 1 9", "tone 0 0 255", "height 2 1 1", "height 2 1 9",
            "fill 2 1 1 1 9", "fill 0 0 3 2 1", "fill 1 0 2 2 9", "stamp 2 0 2 1", "smooth 1", "smooth 20"}) {
            goesOn(command);
        }
        Check.due("nothing behind an end within a repeat", "1 1 1 / 1 2 1",
                () -> Check.picture(right("repeat 3(repeat 2(stamp 2 0 1 0;smooth 0;););fill 0 0 3 2 9;", 1)));
    }

    @Sentence(of = "section 8", says = "the commands before stay done")
    static void staysDone() {
        ReliefBuilder b = right("tone 0 0 0;height 1 0 5;mirror;smooth 0;fill 0 0 3 2 1;", 3);
        Check.due("tones", "255 255 255 / 255 255 0", () -> Check.tones(b));
        Check.due("heights", "1 1 1 / 1 5 9", () -> Check.picture(b));
        Check.due("they can be undone", 0, b::undo);
        Check.due("they can be undone", "1 1 1 / 1 1 1", () -> Check.picture(b));
        ReliefBuilder none = right("smooth 0;fill 0 0 3 2 9;", 0);
        Check.due("there are none before the first", -1, none::undo);
    }

    @Sentence(of = "section 8", says = "It also ends early when 60 commands (\"repeat\" not counted) were done.")
    static void sixty() {
        String counts = "stamp 1 0 0 0;";
        int[][] cases = {{19, 3, 2, 59}, {19, 3, 3, 60}, {19, 3, 4, 60}, {20, 3, 0, 60}, {20, 3, 1, 60},
            {15, 4, 0, 60}, {20, 2, 19, 59}, {20, 2, 20, 60}, {20, 2, 21, 60}, {20, 4, 0, 60}};
        for (int[] c : cases) {
            ReliefBuilder b = Check.relief("panel 1 1;steps 20 glass 80 base 0;");
            b.putStamp(1, 0, 1, 1, 1);
            String script = "repeat " + c[0] + "(" + "ease;".repeat(c[1]) + ");" + counts.repeat(c[2]);
            Check.due(script, c[3], () -> Check.run(b, script));
            Check.due(script + " does no more", Math.min(20, c[3] - c[0] * c[1] < 0 ? 0 : c[3] - c[0] * c[1]),
                    () -> b.height(0, 0));
            Check.due(script + " is no error", 0, b::errorCode);
        }
        right("repeat 20(repeat 1(ease;ease;ease;););", 60);
        Check.due("the 60th is done", 9, () -> right("repeat 2(repeat 20(ease;);ease;);" + "ease;".repeat(17)
                + "height 0 0 9;", 60).height(0, 0));
        Check.due("the 61st is not", 1, () -> right("repeat 2(repeat 20(ease;);ease;);" + "ease;".repeat(18)
                + "height 0 0 9;", 60).height(0, 0));
        Check.due("it ends within a repeat", "1 1 1 / 3 1 1",
                () -> Check.picture(right("repeat 3(repeat 20(ease;);stamp 2 0 0 0;);height 2 1 9;", 60)));
    }

    @Sentence(of = "section 8", says = "3: a \"repeat\" within two others")
    static void depth() {
        right("repeat 1(ease;);", 1);
        right("repeat 1(repeat 1(ease;););", 1);
        wrong("repeat 1(repeat 1(repeat 1(ease;);););", 3, 18);
        wrong("repeat 1(repeat 1(repeat", 3, 18);
        wrong("repeat 1(ease;repeat 1(ease;repeat 99", 3, 28);
        right("repeat 1(repeat 1();repeat 1(););repeat 1(repeat 1(););", 0);
        wrong("repeat 1();repeat 1(repeat 1();repeat 1(repeat 1();););", 3, 40);
        wrong("repeat 0(repeat 1(repeat", 2, 7);
    }

    @Sentence(of = "section 8", says = "5: the first word of a 31st command (\"repeat\" counts as one, too)")
    static void thirty() {
        String thirty = "ease;".repeat(30);
        right(thirty, 30);
        wrong(thirty + "ease;", 5, 150);
        wrong(thirty + "smooth 99;", 5, 150);
        wrong(thirty + "ease", 5, 150);
        wrong(thirty + "repeat 1();", 5, 150);
        wrong(thirty + "oh;", 1, 150);
        wrong(thirty + ";", 1, 150);
        right("ease;".repeat(29) + "repeat 1();", 29);
        wrong("ease;".repeat(29) + "repeat 1(ease;);", 5, 154);
        right("repeat 1(" + "ease;".repeat(29) + ");", 29);
        wrong("repeat 1(" + "ease;".repeat(30) + ");", 5, 154);
        wrong("repeat 1(" + "ease;".repeat(29) + ");ease;", 5, 156);
        right("repeat 1();".repeat(30), 0);
        wrong("repeat 1();".repeat(30) + "repeat 1();", 5, 330);
        wrong("repeat 1(repeat 1(" + "ease;".repeat(28) + "repeat 1();", 3, 158);
        ReliefBuilder b = right(thirty, 30);
        Check.due("another script begins anew", 30, () -> Check.run(b, thirty));
    }

    @Sentence(of = "promise 5", says = "empties the buffer, also if the text has an error, and runs the script")
    static void emptied() {
        ReliefBuilder b = Check.relief(PANEL);
        Check.put(b, "height 0 0 5;");
        Check.due("a right script", 1, b::runScript);
        Check.argument("the buffer is empty", () -> b.truncate(1));
        Check.due("it ran", 5, () -> b.height(0, 0));
        Check.put(b, "height 0 0 7;oh");
        Check.argument("a wrong script", b::runScript);
        Check.argument("the buffer is empty", () -> b.truncate(1));
        Check.due("it did not run", 5, () -> b.height(0, 0));
        Check.put(b, "ease;smooth 0;");
        Check.due("a script that ends early", 1, b::runScript);
        Check.argument("the buffer is empty", () -> b.truncate(1));
        ReliefBuilder full = Check.relief(PANEL);
        Check.due("all 900 bytes", 1, () -> Check.run(full, "ease" + " ".repeat(895) + ";"));
        Check.argument("all 900 bytes", () -> Check.run(full, "ease" + " ".repeat(896)));
        Check.due("the end of them", 900, full::errorPosition);
    }

    @Sentence(of = "promise 5", says = "Returns the number of commands that were done, \"repeat\" not counted.")
    static void countOfCommands() {
        right("", 0);
        right("ease;", 1);
        right("repeat 3();", 0);
        right("repeat 3(ease;);", 3);
        right("repeat 3(repeat 2(ease;mirror;);dither;);", 15);
        right("mirror;mirror;", 2);
        right("ease;smooth 0;ease;", 1);
    }

    @Sentence(of = "promise 5", says = "only the buffer, errorCode() and errorPosition() change then")
    static void unchangedByError() {
        leaves("oh", 1, 0);
        leaves("invert;oh", 1, 7);
        leaves("tone 0 0 0;height 1 1 10;fill 0 0 1 1 21;", 2, 38);
        leaves("repeat 0();", 2, 7);
        leaves("mirror", 1, 6);
        leaves("repeat 2(repeat 2(invert;repeat 2(invert;);););", 3, 25);
        leaves("ease;".repeat(31), 5, 150);
        leaves("dither;repair;(", 1, 14);
    }

    private static void leaves(String script, int code, int position) {
        ReliefBuilder b = Whole.object(script);
        Check.argument(script, b::runScript);
        Check.due(script + " code", code, b::errorCode);
        Check.due(script + " position", position, b::errorPosition);
        Check.argument(script + " empties the buffer", () -> b.truncate(1));
        Check.due(script + " changes nothing else", Whole.seen(Whole.object()), () -> Whole.seen(b));
    }
}
