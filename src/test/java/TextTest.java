/** Promises 1 to 4 and 6 to 8: a new object, the buffer, reliefs and their errors, settings. */
public final class TextTest {
    public static void main(String[] args) {
        newObject();
        feed();
        truncate();
        statements();
        tokens();
        longestTexts();
        firstErrors();
        rangeErrors();
        orderErrors();
        whatAnErrorChanges();
        whatAReliefReplaces();
        settings();
        Check.end("TextTest");
    }

    private static void newObject() {
        ReliefBuilder b = new ReliefBuilder();
        Check.due("NONE", -1, () -> ReliefBuilder.NONE);
        Check.due("1: looks", "4 4 8 80 1 2 1 |255 255 255 255 / 255 255 255 255 / 255 255 255 255 / 255 255 255 255"
                + "|1 1 1 1 / 1 1 1 1 / 1 1 1 1 / 1 1 1 1|-1 -1 -1 -1 -1 -1 -1 -1 -1 -1 -1 -1 ", () -> Check.look(b));
        Check.due("1: no bytes", 0, () -> b.truncate(0));
        Check.argument("1: no byte", () -> b.truncate(1));
        Check.due("1, 6: no error", 0, b::errorCode);
        Check.due("1, 7: no error", -1, b::errorPosition);
        Check.due("1: nothing to undo", -1, b::undo);
        Check.index("1: no report", () -> b.reportByte(0));
        Check.state("1: nothing is saved", () -> b.restore(0));
        Check.state("1: nothing is saved", () -> b.restore(1));
        ReliefBuilder empty = Check.relief("");
        Check.due("1: as an empty text", Check.look(empty), () -> Check.look(b));
    }

    private static void feed() {
        ReliefBuilder b = new ReliefBuilder();
        Check.due("2: the first", 20, () -> b.feed(0, 0, 0, 0, 0));
        for (int n = 2; n < 45; n++) {
            int length = n * 20;
            Check.due("2: more", length, () -> b.feed(1, 2, 3, 4, 5));
        }
        Check.due("2: 881 bytes are too many", 879, () -> b.truncate(879));
        Check.due("2: 899", 899, () -> b.feed(0, 0, 0, 0, 0));
        Check.state("2: 919", () -> b.feed(0, 0, 0, 0, 0));
        Check.due("2: the buffer stays", 899, () -> b.truncate(899));
        b.truncate(881);
        Check.state("2: 901", () -> b.feed(0, 0, 0, 0, 0));
        Check.argument("2: not even a part is appended", () -> b.truncate(882));
        b.truncate(880);
        Check.due("2: 900 is allowed", 900, () -> b.feed(0, 0, 0, 0, 0));
        Check.state("2: 920", () -> b.feed(0, 0, 0, 0, 0));

        ReliefBuilder order = new ReliefBuilder();
        byte[] bytes = "row 1 2 3 4;wall 3; ".getBytes(java.nio.charset.StandardCharsets.ISO_8859_1);
        order.feed(Check.word(bytes, 0), Check.word(bytes, 4), Check.word(bytes, 8), Check.word(bytes, 12),
                Check.word(bytes, 16));
        Check.due("2: the most significant byte first", 2, order::readText);
        Check.due("2: tone", 4, () -> order.tone(3, 0));
        Check.due("2: wall", 3, () -> order.setting(5));
    }

    private static void truncate() {
        ReliefBuilder b = new ReliefBuilder();
        b.feed(0, 0, 0, 0, 0);
        Check.argument("3: longer", () -> b.truncate(21));
        Check.argument("3: negative", () -> b.truncate(-1));
        Check.argument("3: least", () -> b.truncate(Integer.MIN_VALUE));
        Check.argument("3: greatest", () -> b.truncate(Integer.MAX_VALUE));
        Check.due("3: the same", 20, () -> b.truncate(20));
        Check.due("3: shorter", 7, () -> b.truncate(7));
        Check.argument("3: not longer again", () -> b.truncate(8));
        Check.due("3: appended behind", 27, () -> b.feed(0, 0, 0, 0, 0));
        Check.due("3: empty", 0, () -> b.truncate(0));
        Check.due("3: empty again", 0, () -> b.truncate(0));
        Check.argument("3: empty", () -> b.truncate(1));
        Check.put(b, "wall 34;");
        b.truncate(6);
        b.feed(0x3b202020, 0x20202020, 0x20202020, 0x20202020, 0x20202020);
        Check.due("3: what is behind is gone", 1, b::readText);
        Check.due("3: wall", 3, () -> b.setting(5));
    }

    private static void statements() {
        ReliefBuilder b = new ReliefBuilder();
        Check.due("4: none", 0, () -> Check.read(b, ""));
        Check.due("4: blanks alone", 0, () -> Check.read(b, " \n \n"));
        Check.due("4: panel", 1, () -> Check.read(b, "panel 3 2;"));
        Check.due("4: all", 7, () -> Check.read(b, "slope 0;panel 2 3;wall 4;row 0 1;steps 20 glass 99 base 20;"
                + "row 254 255;row 7 8;"));
        Check.due("4: settings and tones", "2 3 20 99 20 4 0 |7 8 / 254 255 / 0 1|20 20 / 20 20 / 20 20",
                () -> Check.look(b).substring(0, 59));
        Check.due("4: rows that are not told", 2, () -> Check.read(b, "panel 2 3;row 1 2;"));
        Check.due("4: they are white", "255 255 / 255 255 / 1 2", () -> Check.tones(b));
        Check.due("4: all settings are new", "2 3 8 80 1 2 1 |", () -> Check.look(b).substring(0, 16));
        Check.due("4: steps behind rows", 2, () -> Check.read(b, "row 0 255 0 255;steps 3 glass 50 base 2;"));
        Check.due("4: heights follow the last word", "2 2 2 2 / 2 2 2 2 / 2 2 2 2 / 3 2 3 2", () -> Check.picture(b));
        Check.due("4: least", 5, () -> Check.read(b, "panel 1 1;steps 1 glass 10 base 0;wall 1;slope 0;row 0;"));
        Check.due("4: least", "1 1 1 10 0 1 0 |0|1|", () -> Check.look(b).substring(0, 20));
        ReliefBuilder wide = new ReliefBuilder();
        Check.due("4: greatest", 4, () -> Check.read(wide, "panel 16 12;steps 20 glass 99 base 20;wall 4;slope 9;"));
        Check.due("4: greatest", "16 12 20 99 20 4 9 |", () -> Check.look(wide).substring(0, 20));
    }

    private static void tokens() {
        ReliefBuilder b = new ReliefBuilder();
        Check.due("4: no blanks", 2, () -> Check.read(b, "panel4 3;wall3;"));
        Check.due("4: many blanks", 2, () -> Check.read(b, "\n panel  \n 0004 \n 3\n;\nwall 003 ; "));
        Check.due("4: leading zeros", "4 3 8 80 1 3 1 ", () -> Check.look(b).substring(0, 15));
        error(b, "wall 00003;", 1, 5);
        error(b, "wall 12345;", 1, 5);
        error(b, "wall 1234;", 2, 5);
        error(b, "wall\t3;", 1, 4);
        error(b, "wall 3;\r", 1, 7);
        error(b, "Wall 3;", 1, 0);
        error(b, "wall -3;", 1, 5);
        error(b, "wall 3;\u00e9", 1, 7);
        error(b, "wall 3;\0", 1, 7);
        error(b, "`", 1, 0);
        error(b, "{", 1, 0);
        error(b, "wall /;", 1, 5);
        error(b, "wall :;", 1, 5);
        error(b, "panels 3 3;", 1, 0);
        error(b, "pane 3 3;", 1, 0);
        error(b, "panelled 3 3;", 1, 0);
        error(b, "panelling 3 3;", 1, 0);
        error(b, "wallwall 3;", 1, 0);
        error(b, "wallz 3;", 1, 0);
        error(b, "wall 3;z", 1, 7);
        error(b, "walla 3;", 1, 0);
        error(b, "ball 3;", 1, 0);
        error(b, "walk 3;", 1, 0);
        error(b, "panel 3 3;wall 3;(", 1, 17);
    }

    private static void longestTexts() {
        ReliefBuilder b = new ReliefBuilder();
        error(b, ";".repeat(900), 1, 0);
        error(b, " ".repeat(899) + "a", 1, 899);
        error(b, "wall 3" + " ".repeat(894), 1, 900);
        error(b, "a".repeat(900), 1, 0);
        error(b, "9".repeat(900), 1, 0);
        ReliefBuilder right = new ReliefBuilder();
        Check.due("4: 900 bytes", 1, () -> Check.read(right, "wall 3" + " ".repeat(893) + ";"));
        ReliefBuilder row = new ReliefBuilder();
        String rows = "row 255 254 253 252 251 250 249 248 247 246 245 244 243 242 241 240;".repeat(12);
        Check.due("4: all rows", 13, () -> Check.read(row, "panel 16 12;" + rows));
        Check.due("4: all rows", 240, () -> row.tone(15, 11));
    }

    private static void firstErrors() {
        ReliefBuilder b = new ReliefBuilder();
        error(b, ";", 1, 0);
        error(b, "  )", 1, 2);
        error(b, "3", 1, 0);
        error(b, "glass 50;", 1, 0);
        error(b, "base 1;", 1, 0);
        error(b, "repair;", 1, 0);
        error(b, "wall", 1, 4);
        error(b, "wall ", 1, 5);
        error(b, "wall 3", 1, 6);
        error(b, "wall 3  \n", 1, 9);
        error(b, "wall;", 1, 4);
        error(b, "wall 3 3;", 1, 7);
        error(b, "wall 3 wall 3;", 1, 7);
        error(b, "panel 3;", 1, 7);
        error(b, "panel 3 3 3;", 1, 10);
        error(b, "steps 8 80 1;", 1, 8);
        error(b, "steps 8 base 1 glass 80;", 1, 8);
        error(b, "steps 8 glass 80;", 1, 16);
        error(b, "steps 8 glass 80 glass 1;", 1, 17);
        error(b, "steps glass 80 base 1;", 1, 6);
        error(b, "steps 8 glass base 1;", 1, 14);
        error(b, "steps 8 glass 80 base;", 1, 21);
        error(b, "slope;", 1, 5);
        error(b, "row;", 1, 3);
        error(b, "row 1 2 3;", 1, 9);
        error(b, "row 1 2 3 4 5;", 1, 12);
        error(b, "row 1 2 3 4 256;", 1, 12);
        error(b, "row 1 2 3 4", 1, 11);
        error(b, "row 1 2 x 4;", 1, 8);
        error(b, "panel 2 2;row 1 2;row 3;", 1, 23);
        error(b, "panel 3 3;;", 1, 10);
    }

    private static void rangeErrors() {
        ReliefBuilder b = new ReliefBuilder();
        error(b, "panel 0 4;", 2, 6);
        error(b, "panel 17 4;", 2, 6);
        error(b, "panel 4 0;", 2, 8);
        error(b, "panel 4 13;", 2, 8);
        error(b, "panel 17 0;", 2, 6);
        error(b, "steps 0 glass 80 base 0;", 2, 6);
        error(b, "steps 21 glass 80 base 0;", 2, 6);
        error(b, "steps 8 glass 9 base 0;", 2, 14);
        error(b, "steps 8 glass 100 base 0;", 2, 14);
        error(b, "steps 8 glass 80 base 9;", 2, 22);
        error(b, "steps 21 80 glass;", 2, 6);
        error(b, "wall 0;", 2, 5);
        error(b, "wall 5;", 2, 5);
        error(b, "slope 10;", 2, 6);
        error(b, "row 256 0 0 0;", 2, 4);
        error(b, "row 0 0 0 9999;", 2, 10);
        error(b, "wall 5 5 panel", 2, 5);
        Check.due("4: the base may be the greatest height", 1, () -> Check.read(b, "steps 5 glass 80 base 5;"));
    }

    private static void orderErrors() {
        ReliefBuilder b = new ReliefBuilder();
        error(b, "panel 4 4;panel 4 4;", 3, 10);
        error(b, "steps 8 glass 80 base 1;steps 8 glass 80 base 1;", 3, 24);
        error(b, "wall 2;slope 1;wall 2;", 3, 15);
        error(b, "slope 1;wall 2;slope 1;", 3, 15);
        error(b, "row 1 2 3 4;panel 4 4;", 3, 12);
        error(b, "panel 4 4;row 1 2 3 4;panel 4 4;", 3, 22);
        error(b, "panel 4 1;row 1 2 3 4;row 1 2 3 4;", 5, 22);
        error(b, "row 1 2 3 4;row 1 2 3 4;row 1 2 3 4;row 1 2 3 4;row 1 2 3 4;", 5, 48);
        error(b, "panel 1 1;row 1;row", 5, 16);
        error(b, "panel 1 1;row 1;panel 0", 3, 16);
        Check.due("4: settings behind rows", 4,
                () -> Check.read(b, "row 1 2 3 4;wall 3;steps 8 glass 80 base 1;slope 2;"));
    }

    private static void whatAnErrorChanges() {
        ReliefBuilder b = Check.relief("panel 3 2;steps 9 glass 70 base 1;row 9 8 7;");
        b.setHeight(1, 1, 5);
        b.putStamp(2, 0, 1, 2, 3);
        Check.still("4: errors", b, () -> {
            error(b, "panel 5 5;steps 4 glass 20 base 0;wall 4;slope 3;row 1 2 3 4 5;oh", 1, 63);
            error(b, "panel 16 17;", 2, 9);
        });
        Check.due("4: the buffer is empty", 0, () -> b.truncate(0));
        Check.due("4: undo is not forgotten", 0, b::undo);
        Check.put(b, "row 1 2 3;");
        Check.argument("4: an error", b::readText);
        Check.argument("4: the buffer is empty", () -> b.truncate(1));
        Check.due("6: it stays", 1, b::errorCode);
        Check.due("7: it stays", 9, b::errorPosition);
        b.setHeight(0, 0, 2);
        Check.due("6: it stays", 1, b::errorCode);
        Check.due("4: right again", 0, () -> b.readText());
        Check.due("6: none", 0, b::errorCode);
        Check.due("7: none", -1, b::errorPosition);
    }

    private static void whatAReliefReplaces() {
        ReliefBuilder b = Check.relief("panel 3 2;");
        b.putStamp(0, 1, 0, 2, 3);
        b.setHeight(0, 0, 8);
        b.save(1);
        Check.due("61: bytes", 12, b::report);
        Check.put(b, "panel 3 2;row 0 0 0;");
        Check.due("4: statements", 2, b::readText);
        Check.argument("4: the buffer is empty", () -> b.truncate(1));
        Check.due("4: racks stay", 203, () -> b.stampAt(0, 1));
        Check.due("4: the report stays", "1 1 1\n8 1 1\n", () -> Check.reportText(b, 12));
        Check.due("4: undo is forgotten", -1, b::undo);
        Check.due("4: heights are new", "1 1 1 / 8 8 8", () -> Check.picture(b));
        Check.due("4: what is saved stays", 2, () -> b.restore(1));
        Check.due("4: what is saved stays", "1 1 1 / 8 1 1", () -> Check.picture(b));
        Check.due("4: restore() leaves tones", "255 255 255 / 0 0 0", () -> Check.tones(b));
    }

    private static void settings() {
        ReliefBuilder b = Check.relief("panel 7 5;steps 11 glass 66 base 2;wall 3;slope 4;");
        int[] want = {7, 5, 11, 66, 2, 3, 4};
        for (int what = 0; what < want.length; what++) {
            int w = what;
            Check.due("8: " + what, want[what], () -> b.setting(w));
        }
        Check.argument("8: 7", () -> b.setting(7));
        Check.argument("8: -1", () -> b.setting(-1));
        Check.argument("8: least", () -> b.setting(Integer.MIN_VALUE));
    }

    private static void error(ReliefBuilder b, String text, int code, int position) {
        Check.put(b, text);
        Check.argument("4: " + text, b::readText);
        Check.due("6: " + text, code, b::errorCode);
        Check.due("7: " + text, position, b::errorPosition);
    }
}
