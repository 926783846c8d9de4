/** Section 1 and promises 1 to 4 and 6 to 8: the buffer, reliefs and their errors, settings. */
final class TextBounds {
    private static final String ROW_OF_16 = "row 0 1 2 3 4 5 6 7 8 9 10 11 12 13 14 15";

    private TextBounds() {
    }

    private static String shortened(String text) {
        return "\"" + (text.length() > 60 ? text.substring(0, 60) + ".." : text).replace("\n", "\\n") + "\"";
    }

    private static ReliefBuilder right(String text, int statements) {
        ReliefBuilder b = new ReliefBuilder();
        Check.due(shortened(text), statements, () -> Check.read(b, text));
        Check.due(shortened(text) + " code", 0, b::errorCode);
        Check.due(shortened(text) + " position", -1, b::errorPosition);
        return b;
    }

    private static void wrong(String text, int code, int position) {
        ReliefBuilder b = new ReliefBuilder();
        Check.put(b, text);
        Check.argument(shortened(text), b::readText);
        Check.due(shortened(text) + " code", code, b::errorCode);
        Check.due(shortened(text) + " position", position, b::errorPosition);
    }

    private static void setTo(String text, int what, int want) {
        ReliefBuilder b = right(text, 1);
        Check.due(shortened(text) + " setting " + what, want, () -> b.setting(what));
    }

    // ---- the whole, and section 1

    @Sentence(of = "what it is", says = "An object is used for at most 512 calls")
    static void calls512() {
        ReliefBuilder b = new ReliefBuilder();
        for (int call = 1; call < 512; call++) {
            int height = call % 2 == 0 ? 3 : 5;
            Check.due("call " + call, call == 1 ? 1 : 8 - height, () -> b.setHeight(1, 1, height));
        }
        Check.due("call 512", 20, b::volume);
    }

    @Sentence(of = "section 1", says = "a buffer of at most 900 bytes")
    static void bufferOf900() {
        ReliefBuilder b = right("wall 3" + " ".repeat(893) + ";", 1);
        Check.due("byte 899 is read", 3, () -> b.setting(5));
        wrong(" ".repeat(899) + "z", 1, 899);
        wrong(" ".repeat(896) + "wall", 1, 900);
        ReliefBuilder full = new ReliefBuilder();
        Check.put(full, " ".repeat(900));
        Check.state("no more behind 900", () -> full.feed(0, 0, 0, 0, 0));
        Check.due("900 are kept", 900, () -> full.truncate(900));
        Check.due("900 spaces are a text", 0, full::readText);
    }

    @Sentence(of = "section 1", says = "relief = { statement \";\" }")
    static void statements() {
        right("", 0);
        right(" ", 0);
        right("wall 3;", 1);
        right("row 1 2 3 4;".repeat(4), 4);
        wrong(";", 1, 0);
        wrong("wall 3", 1, 6);
        wrong("wall 3;;", 1, 7);
        wrong("wall 3 slope 3;", 1, 7);
    }

    @Sentence(of = "section 1", says = "statement = \"panel\" N N")
    static void grammar() {
        String[] shapes = {"panel 2 3", "steps 8 glass 80 base 1", "wall 2", "slope 1", "row 1 2 3 4"};
        for (String shape : shapes) {
            right(shape + ";", 1);
            wrong(shape + " 1;", 1, shape.length() + 1);
            wrong(shape, 1, shape.length());
            wrong(shape + "(;", 1, shape.length());
            String[] tokens = shape.split(" ");
            String text = "";
            for (String token : tokens) {
                wrong(text + ";", 1, text.length());
                text += token + " ";
            }
        }
        wrong("steps 8 glass 80;", 1, 16);
        wrong("steps 8 base 1 glass 80;", 1, 8);
        wrong("row;", 1, 3);
        wrong("glass 80;", 1, 0);
        wrong("base 1;", 1, 0);
    }

    @Sentence(of = "section 1", says = "A word is a maximal run of letters a to z, at most 8 of them.")
    static void words() {
        wrong("wall`3;", 1, 4);
        wrong("wall{3;", 1, 4);
        wrong("wall\u00e93;", 1, 4);
        wrong("wall\03;", 1, 4);
        wrong("wallA3;", 1, 4);
        wrong("wallZ3;", 1, 4);
        wrong("wallz3;", 1, 0);
        wrong("awall3;", 1, 0);
        wrong("wal l3;", 1, 0);
        wrong("ball 3;", 1, 0);
        wrong("walk 3;", 1, 0);
        wrong("wal 3;", 1, 0);
        right("wall3;", 1);
        wrong("wall 3;abcdefgh", 1, 7);
        wrong("wall 3;abcdefghi", 1, 7);
        wrong("wallwall 3;", 1, 0);
        wrong("wallwallw 3;", 1, 0);
    }

    @Sentence(of = "section 1", says = "A number N is a maximal run of digits, at most 4 of them.")
    static void numbers() {
        setTo("wall 0003;", 5, 3);
        wrong("wall 00003;", 1, 5);
        wrong("wall 9999;", 2, 5);
        wrong("wall 10000;", 1, 5);
        wrong("wall 3/;", 1, 6);
        wrong("wall 3:;", 1, 6);
        wrong("wall 33;", 2, 5);
        wrong("wall 3 3;", 1, 7);
        wrong("row 1 2 34;", 1, 10);
        right("row 0000 0001 0099 0255;", 1);
        wrong("row 0 1 99 00255;", 1, 11);
        wrong("wall " + "3".repeat(890) + ";", 1, 5);
        wrong("wall 4294967299;", 1, 5);
    }

    @Sentence(of = "section 1", says = "The other tokens are the single characters ; ( and ).")
    static void signs() {
        right("wall3;slope2;", 2);
        wrong("wall 3;;", 1, 7);
        wrong("wall 3;;;", 1, 7);
        wrong("wall 3(;", 1, 6);
        wrong("wall 3);", 1, 6);
        wrong("wall(3);", 1, 4);
        wrong("(", 1, 0);
        wrong(")", 1, 0);
        ReliefBuilder b = new ReliefBuilder();
        Check.due("brackets side by side", 0, () -> Check.run(b, "repeat 1(repeat 1();repeat 1(););"));
    }

    @Sentence(of = "section 1", says = "Spaces (byte 32) and line feeds (byte 10) may stand before, between and behind")
    static void blanks() {
        right(" wall 3;", 1);
        right("\nwall 3;", 1);
        right("wall\n3\n;\n", 1);
        right(" \n  wall \n\n 3  ;  \n", 1);
        right("panel 2\n2;", 1);
        wrong("wa ll 3;", 1, 0);
        wrong("panel 1\n6 4 ;", 1, 10);
        for (int other : new int[] {0, 9, 11, 12, 13, 31, 33, 127, 128, 160, 255}) {
            wrong("wall " + (char) other + "3;", 1, 5);
        }
    }

    @Sentence(of = "section 1", says = "Every other byte, a longer run of letters and a longer run of digits")
    static void everyByte() {
        for (int other = 0; other < 256; other++) {
            String text = "wall 3" + (char) other + ";";
            if (other == ' ' || other == '\n') {
                right(text, 1);
            } else if (other >= '0' && other <= '9') {
                wrong(text, 2, 5);
            } else if (other == ';') {
                wrong(text, 1, 7);
            } else {
                wrong(text, 1, 6);
            }
        }
        wrong("wall 3;" + "a".repeat(9), 1, 7);
        wrong("wall 12345;", 1, 5);
    }

    @Sentence(of = "section 1", says = "\"panel\" sets the width (1 to 16 cells) and the height (1 to 12 rows)")
    static void panel() {
        wrong("panel 0 4;", 2, 6);
        setTo("panel 1 4;", 0, 1);
        setTo("panel 16 4;", 0, 16);
        wrong("panel 17 4;", 2, 6);
        wrong("panel 4 0;", 2, 8);
        setTo("panel 4 1;", 1, 1);
        setTo("panel 4 12;", 1, 12);
        wrong("panel 4 13;", 2, 8);
        wrong("panel 12 16;", 2, 9);
        setTo("wall 3;", 0, 4);
        setTo("wall 3;", 1, 4);
        ReliefBuilder b = Check.relief("panel 16 12;");
        Check.due("without it again 4", 0, () -> Check.read(b, ""));
        Check.due("4 columns", 4, () -> b.setting(0));
        Check.due("4 rows", 4, () -> b.setting(1));
        Check.index("no column 4", () -> b.tone(4, 0));
        Check.index("no row 4", () -> b.tone(0, 4));
    }

    @Sentence(of = "section 1", says = "Cells have an x from 0 on the left and a y from 0 in the lowest row.")
    static void cells() {
        ReliefBuilder b = Check.relief("panel 3 2;row 1 2 3;row 4 5 6;");
        Check.due("0 0", 1, () -> b.tone(0, 0));
        Check.due("2 0", 3, () -> b.tone(2, 0));
        Check.due("0 1", 4, () -> b.tone(0, 1));
        Check.due("2 1", 6, () -> b.tone(2, 1));
        Check.index("-1 0", () -> b.tone(-1, 0));
        Check.index("3 0", () -> b.tone(3, 0));
        Check.index("0 -1", () -> b.tone(0, -1));
        Check.index("0 2", () -> b.tone(0, 2));
    }

    @Sentence(of = "section 1", says = "\"steps\" sets the greatest height of a cell (1 to 20; 8 without it)")
    static void steps() {
        wrong("steps 0 glass 80 base 0;", 2, 6);
        setTo("steps 1 glass 80 base 0;", 2, 1);
        setTo("steps 20 glass 80 base 0;", 2, 20);
        wrong("steps 21 glass 80 base 0;", 2, 6);
        setTo("wall 3;", 2, 8);
        ReliefBuilder b = Check.relief("steps 20 glass 80 base 0;");
        Check.read(b, "wall 3;");
        Check.due("8 again", 8, () -> b.setting(2));
    }

    @Sentence(of = "section 1", says = "how much light a step lets through (10 to 99 percent; 80 without it)")
    static void glass() {
        wrong("steps 8 glass 9 base 0;", 2, 14);
        setTo("steps 8 glass 10 base 0;", 3, 10);
        setTo("steps 8 glass 99 base 0;", 3, 99);
        wrong("steps 8 glass 100 base 0;", 2, 14);
        setTo("wall 3;", 3, 80);
        ReliefBuilder b = Check.relief("steps 8 glass 10 base 0;");
        Check.read(b, "wall 3;");
        Check.due("80 again", 80, () -> b.setting(3));
        Check.due("light again", 0.8f, () -> b.light(1));
    }

    @Sentence(of = "section 1", says = "the least height of a cell, the base (0 to the greatest height; 1 without it)")
    static void base() {
        setTo("steps 8 glass 80 base 0;", 4, 0);
        setTo("steps 8 glass 80 base 8;", 4, 8);
        wrong("steps 8 glass 80 base 9;", 2, 22);
        setTo("steps 1 glass 80 base 1;", 4, 1);
        wrong("steps 1 glass 80 base 2;", 2, 22);
        setTo("steps 20 glass 80 base 20;", 4, 20);
        wrong("steps 20 glass 80 base 21;", 2, 23);
        setTo("wall 3;", 4, 1);
        ReliefBuilder b = Check.relief("steps 20 glass 80 base 20;");
        Check.read(b, "wall 3;");
        Check.due("1 again", 1, () -> b.setting(4));
    }

    @Sentence(of = "section 1", says = "\"wall\" is the least width of a wall (1 to 4; 2 without it)")
    static void wall() {
        wrong("wall 0;", 2, 5);
        setTo("wall 1;", 5, 1);
        setTo("wall 4;", 5, 4);
        wrong("wall 5;", 2, 5);
        setTo("slope 3;", 5, 2);
        ReliefBuilder b = Check.relief("wall 4;");
        Check.read(b, "");
        Check.due("2 again", 2, () -> b.setting(5));
    }

    @Sentence(of = "section 1",
            says = "\"slope\" by how much a cell may stand out over the one below it (0 to 9; 1 without")
    static void slope() {
        setTo("slope 0;", 6, 0);
        setTo("slope 9;", 6, 9);
        wrong("slope 10;", 2, 6);
        setTo("wall 3;", 6, 1);
        ReliefBuilder b = Check.relief("slope 9;");
        Check.read(b, "");
        Check.due("1 again", 1, () -> b.setting(6));
    }

    @Sentence(of = "section 1", says = "\"row\" tells the tones (0 to 255) of the next row")
    static void tonesOfRow() {
        ReliefBuilder b = right("row 0 255 1 254;row 9 8 7 6;", 2);
        Check.due("the lowest row first, from the left",
                "255 255 255 255 / 255 255 255 255 / 9 8 7 6 / 0 255 1 254", () -> Check.tones(b));
        wrong("row 256 0 0 0;", 2, 4);
        wrong("row 0 0 0 256;", 2, 10);
        wrong("row 0 0 0 9999;", 2, 10);
        wrong("row 0 0 0 0;row 0 256 0 0;", 2, 18);
    }

    @Sentence(of = "section 1", says = "exactly as many as the panel is wide")
    static void widthOfRow() {
        wrong("row 1 2 3;", 1, 9);
        right("row 1 2 3 4;", 1);
        wrong("row 1 2 3 4 5;", 1, 12);
        wrong("panel 1 1;row;", 1, 13);
        right("panel 1 1;row 7;", 2);
        wrong("panel 1 1;row 7 7;", 1, 16);
        wrong("panel 16 12;" + ROW_OF_16.substring(0, ROW_OF_16.length() - 3) + ";", 1, 50);
        ReliefBuilder b = right("panel 16 12;" + ROW_OF_16 + ";", 2);
        Check.due("the last one", 15, () -> b.tone(15, 0));
        wrong("panel 16 12;" + ROW_OF_16 + " 16;", 1, 54);
    }

    @Sentence(of = "section 1", says = "Rows that are not told have the tone 255 everywhere.")
    static void rowsNotTold() {
        ReliefBuilder b = Check.relief("panel 2 3;row 0 0;row 0 0;row 0 0;");
        Check.due("all told", "0 0 / 0 0 / 0 0", () -> Check.tones(b));
        Check.read(b, "panel 2 3;row 0 0;row 0 0;");
        Check.due("one not", "255 255 / 0 0 / 0 0", () -> Check.tones(b));
        Check.read(b, "panel 2 3;row 0 0;");
        Check.due("two not", "255 255 / 255 255 / 0 0", () -> Check.tones(b));
        Check.read(b, "panel 2 3;");
        Check.due("none told", "255 255 / 255 255 / 255 255", () -> Check.tones(b));
        Check.due("their heights, too", "1 1 / 1 1 / 1 1", () -> Check.picture(b));
    }

    @Sentence(of = "section 1",
            says = "the index of the first byte of a token, or the length of the text if it ends too")
    static void positions() {
        wrong("z", 1, 0);
        wrong("   z", 1, 3);
        wrong("wall 3;\nabcdefghij", 1, 8);
        wrong("wall 3;\n1234567890", 1, 8);
        wrong("wall 0005;", 2, 5);
        wrong("wall", 1, 4);
        wrong("wall ", 1, 5);
        wrong("wall 3", 1, 6);
        wrong("wall 3  \n", 1, 9);
        wrong(" ".repeat(895) + "wall3", 1, 900);
        wrong("row 1 2 3", 1, 9);
    }

    @Sentence(of = "section 1",
            says = "the first error is reported; if several codes apply at one token, the lowest one")
    static void firstError() {
        wrong("wall 5 5 panel", 2, 5);
        wrong("panel 17 13;", 2, 6);
        wrong("oh;wall 9;", 1, 0);
        wrong("wall 2;wall 9;\t", 3, 7);
        wrong("wall 9;\t", 2, 5);
        wrong("row 1 2 3 4 256;", 1, 12);
        wrong("wall 3 9;", 1, 7);
        wrong("wall 3 wall 3;", 1, 7);
        wrong("panel 1 1;row 1 row 1;", 1, 16);
        wrong("panel 1 1;row 1;panel 1 1;", 3, 16);
    }

    @Sentence(of = "section 1",
            says = "1: an invalid token, or a token that the grammar, or the number of tones of a row")
    static void code1() {
        wrong("wall 3;#", 1, 7);
        wrong("#", 1, 0);
        wrong("wall #;", 1, 5);
        wrong("wall 3#", 1, 6);
        wrong("wall;", 1, 4);
        wrong("wall wall;", 1, 5);
        wrong("3;", 1, 0);
        wrong("mirror;", 1, 0);
        wrong("row 1 2 3;", 1, 9);
        wrong("row 1 2 3 4 5;", 1, 12);
        right("row 1 2 3 4;", 1);
    }

    @Sentence(of = "section 1", says = "2: a number out of its range.")
    static void code2() {
        wrong("panel 0 1;", 2, 6);
        wrong("panel 1 13;", 2, 8);
        wrong("steps 21 glass 9 base 9;", 2, 6);
        wrong("steps 20 glass 9 base 21;", 2, 15);
        wrong("steps 20 glass 10 base 21;", 2, 23);
        right("steps 20 glass 10 base 20;", 1);
        wrong("row 0 0 0 256;", 2, 10);
        right("row 0 0 0 255;", 1);
    }

    @Sentence(of = "section 1", says = "3: the first word of a second \"panel\", \"steps\", \"wall\" or \"slope\"")
    static void code3Second() {
        right("panel 4 4;steps 8 glass 80 base 1;wall 2;slope 1;", 4);
        wrong("panel 4 4;panel 4 4;", 3, 10);
        wrong("panel 4 4;wall 2;panel", 3, 17);
        wrong("steps 8 glass 80 base 1;steps 8 glass 80 base 1;", 3, 24);
        wrong("wall 2;wall 2;", 3, 7);
        wrong("slope 1;slope 1;", 3, 8);
        right("row 1 2 3 4;row 1 2 3 4;", 2);
        ReliefBuilder b = Check.relief("panel 4 4;steps 8 glass 80 base 1;wall 2;slope 1;");
        Check.due("another text begins anew", 4,
                () -> Check.read(b, "panel 4 4;steps 8 glass 80 base 1;wall 2;slope 1;"));
    }

    @Sentence(of = "section 1", says = "or of a \"panel\" behind a \"row\"")
    static void code3BehindRow() {
        wrong("row 1 2 3 4;panel 4 4;", 3, 12);
        wrong("row 1 2 3 4;wall 2;panel", 3, 19);
        wrong("panel 4 4;row 1 2 3 4;panel 4 4;", 3, 22);
        right("panel 4 4;row 1 2 3 4;", 2);
        right("row 1 2 3 4;steps 8 glass 80 base 1;wall 2;slope 1;", 4);
        ReliefBuilder b = Check.relief("row 1 2 3 4;");
        Check.due("another text begins anew", 1, () -> Check.read(b, "panel 2 2;"));
    }

    @Sentence(of = "section 1", says = "5: the word \"row\" when all rows of the panel were told.")
    static void code5() {
        right("row 1 2 3 4;".repeat(4), 4);
        wrong("row 1 2 3 4;".repeat(5), 5, 48);
        wrong("row 1 2 3 4;".repeat(4) + "row", 5, 48);
        right("panel 1 1;row 1;", 2);
        wrong("panel 1 1;row 1;row 1;", 5, 16);
        right("panel 1 12;" + "row 1;".repeat(12), 13);
        wrong("panel 1 12;" + "row 1;".repeat(13), 5, 83);
        wrong("panel 1 1;row 1;wall 2;row 999;", 5, 23);
    }

    @Sentence(of = "behind section 8", says = "NONE = -1: There is no such value.")
    static void none() {
        Check.due("it", -1, () -> ReliefBuilder.NONE);
        Check.due("what answers it", ReliefBuilder.NONE, () -> new ReliefBuilder().undo());
    }

    // ---- promises 1 to 4 and 6 to 8

    @Sentence(of = "promise 1", says = "as if an empty text was read, with an empty buffer and empty racks")
    static void newObject() {
        ReliefBuilder b = new ReliefBuilder();
        Check.due("an empty text", Check.look(Check.relief("")), () -> Check.look(b));
        Check.argument("the buffer is empty", () -> b.truncate(1));
        Check.due("the first bytes", 20, () -> b.feed(0, 0, 0, 0, 0));
        for (int rack = 0; rack < 3; rack++) {
            for (int place = 0; place < 4; place++) {
                int r = rack;
                int p = place;
                Check.due("no stamp", -1, () -> b.stampAt(r, p));
                Check.state("no stamp to use", () -> b.stamp(r, p, 0, 0));
            }
        }
        Check.due("nothing to undo", -1, b::undo);
        Check.state("nothing is saved", () -> b.restore(0));
        Check.state("nothing is saved", () -> b.restore(1));
    }

    @Sentence(of = "promise 2", says = "the four bytes of each argument, the most significant byte first")
    static void orderOfBytes() {
        for (int at = 0; at < 20; at++) {
            byte[] bytes = " ".repeat(20).getBytes();
            bytes[at] = (byte) 0xff;
            int position = at;
            ReliefBuilder b = new ReliefBuilder();
            b.feed(Check.word(bytes, 0), Check.word(bytes, 4), Check.word(bytes, 8), Check.word(bytes, 12),
                    Check.word(bytes, 16));
            Check.argument("byte " + at, b::readText);
            Check.due("byte " + at, position, b::errorPosition);
        }
        ReliefBuilder b = new ReliefBuilder();
        b.feed(0x726f7720, 0x3120323b, Integer.MIN_VALUE, 0, 0);
        b.truncate(8);
        Check.argument("\"row 1 2;\"", b::readText);
        Check.due("\"row 1 2;\"", 7, b::errorPosition);
    }

    @Sentence(of = "promise 2", says = "Returns the number of bytes in the buffer.")
    static void lengthOfBuffer() {
        ReliefBuilder b = new ReliefBuilder();
        for (int length = 20; length <= 900; length += 20) {
            Check.due("length", length, () -> b.feed(-1, -1, -1, -1, -1));
        }
        b.truncate(1);
        Check.due("behind truncate()", 21, () -> b.feed(0, 0, 0, 0, 0));
        Check.argument("read", b::readText);
        Check.due("behind readText()", 20, () -> b.feed(0, 0, 0, 0, 0));
    }

    @Sentence(of = "promise 2", says = "Throws IllegalStateException if it would exceed 900")
    static void fullBuffer() {
        ReliefBuilder b = new ReliefBuilder();
        Check.put(b, " ".repeat(879));
        int blanks = 0x20202020;
        Check.due("879 and 20", 899, () -> b.feed(blanks, blanks, blanks, blanks, blanks));
        Check.state("899 and 20", () -> b.feed(0, 0, 0, 0, 0));
        b.truncate(881);
        Check.state("881 and 20", () -> b.feed(0, 0, 0, 0, 0));
        Check.argument("not even a part of them", () -> b.truncate(882));
        b.truncate(880);
        Check.due("880 and 20", 900, () -> b.feed(blanks, blanks, blanks, blanks, blanks));
        Check.state("900 and 20", () -> b.feed(-1, -1, -1, -1, -1));
        Check.due("the 900 stay as they are", 0, b::readText);
    }

    @Sentence(of = "promise 3", says = "Truncates the buffer.")
    static void truncated() {
        ReliefBuilder b = new ReliefBuilder();
        Check.put(b, "wall 3;zzzz");
        Check.due("the end goes", 7, () -> b.truncate(7));
        Check.due("the rest stays", 1, b::readText);
        Check.put(b, "wall 44;");
        b.truncate(6);
        b.feed(0x3b202020, 0x20202020, 0x20202020, 0x20202020, 0x20202020);
        Check.due("what follows stands behind the rest", 1, b::readText);
        Check.due("wall", 4, () -> b.setting(5));
    }

    @Sentence(of = "promise 3", says = "Returns n.")
    static void lengthAnswered() {
        ReliefBuilder b = new ReliefBuilder();
        Check.due("empty", 0, () -> b.truncate(0));
        b.feed(0, 0, 0, 0, 0);
        Check.due("the present length", 20, () -> b.truncate(20));
        Check.due("one less", 19, () -> b.truncate(19));
        Check.due("nothing", 0, () -> b.truncate(0));
    }

    @Sentence(of = "promise 3", says = "if n is negative or greater than the present length")
    static void wrongLength() {
        ReliefBuilder b = new ReliefBuilder();
        Check.argument("1 of none", () -> b.truncate(1));
        Check.argument("-1 of none", () -> b.truncate(-1));
        b.feed(0, 0, 0, 0, 0);
        Check.argument("21 of 20", () -> b.truncate(21));
        Check.argument("900 of 20", () -> b.truncate(900));
        Check.argument("-1", () -> b.truncate(-1));
        Check.argument("-20", () -> b.truncate(-20));
        Check.argument("the least int", () -> b.truncate(Integer.MIN_VALUE));
        Check.argument("the greatest int", () -> b.truncate(Integer.MAX_VALUE));
        Check.due("20 stay", 40, () -> b.feed(0, 0, 0, 0, 0));
        b.truncate(13);
        Check.argument("what is gone is gone", () -> b.truncate(14));
    }

    @Sentence(of = "promise 4", says = "all that there is but the racks, what is saved and the latest report")
    static void replaced() {
        ReliefBuilder b = Whole.object("");
        Check.due("an empty text", 0, b::readText);
        Check.due("settings, tones and heights go, racks stay", "4 4 8 80 1 2 1 |255 255 255 255 / 255 255 255 255 / "
                + "255 255 255 255 / 255 255 255 255|1 1 1 1 / 1 1 1 1 / 1 1 1 1 / 1 1 1 1"
                + "|-1 203 -1 -1 -1 -1 -1 1620 1102 -1 -1 -1 ", () -> Check.look(b));
        Check.due("the report stays", "1 9 4\n4 3 1\n", () -> Check.reportText(b, 12));
        Check.index("the report is not longer", () -> b.reportByte(12));
        Check.due("what can be undone goes", -1, b::undo);
        Check.due("the error goes", 0, b::errorCode);
        Check.state("what is saved is of another panel", () -> b.restore(0));
        Check.read(b, "panel 3 2;steps 9 glass 10 base 1;");
        Check.due("what is saved stays", 4, () -> b.restore(0));
        Check.due("what is saved stays", "1 9 4 / 4 3 1", () -> Check.picture(b));
    }

    @Sentence(of = "promise 4", says = "and empties the buffer, also if the text has an error")
    static void emptied() {
        ReliefBuilder b = new ReliefBuilder();
        Check.put(b, "wall 3;");
        Check.due("a right text", 1, b::readText);
        Check.argument("the buffer is empty", () -> b.truncate(1));
        Check.put(b, "wall 3;oh");
        Check.argument("a wrong text", b::readText);
        Check.argument("the buffer is empty", () -> b.truncate(1));
        Check.due("an empty text", 0, b::readText);
        Check.due("full again", 20, () -> b.feed(0, 0, 0, 0, 0));
    }

    @Sentence(of = "promise 4", says = "Returns the number of statements.")
    static void countOfStatements() {
        right("", 0);
        right("wall 2;", 1);
        right("panel 1 12;steps 1 glass 10 base 0;wall 1;slope 0;" + "row 0;".repeat(12), 16);
        ReliefBuilder b = new ReliefBuilder();
        Check.read(b, "wall 2;slope 1;");
        Check.due("not those of an earlier text", 1, () -> Check.read(b, "wall 2;"));
    }

    @Sentence(of = "promise 4", says = "only the buffer, errorCode() and errorPosition() change then")
    static void unchangedByError() {
        leaves("oh", 1, 0);
        leaves("panel 16 12;steps 20 glass 10 base 20;wall 4;slope 9;row 1 2 3", 1, 62);
        leaves("panel 17", 2, 6);
        leaves("row 1 1 1;wall 4;row 2 2 2", 1, 9);
        leaves("panel 3 2;row 1 1 1;row 2 2 2;wall 0;", 2, 35);
        leaves("steps 1 glass 10 base 0;steps", 3, 24);
        leaves("panel 1 1;row 0;row 0;", 5, 16);
    }

    private static void leaves(String text, int code, int position) {
        ReliefBuilder b = Whole.object(text);
        Check.argument(text, b::readText);
        Check.due(text + " code", code, b::errorCode);
        Check.due(text + " position", position, b::errorPosition);
        Check.argument(text + " empties the buffer", () -> b.truncate(1));
        Check.due(text + " changes nothing else", Whole.seen(Whole.object()), () -> Whole.seen(b));
    }

    @Sentence(of = "promise 6", says = "0 if there was none or no such call")
    static void codeOfError() {
        ReliefBuilder b = new ReliefBuilder();
        Check.due("no call", 0, b::errorCode);
        Check.argument("a wrong relief", () -> Check.read(b, "wall 2;wall 2;"));
        Check.due("it", 3, b::errorCode);
        Check.due("no error", 0, () -> Check.read(b, ""));
        Check.due("none", 0, b::errorCode);
        Check.argument("a wrong script", () -> Check.run(b, "smooth 21;"));
        Check.due("it", 2, b::errorCode);
        Check.due("other calls", 1, () -> b.setHeight(0, 0, 2));
        Check.due("it stays", 2, b::errorCode);
        Check.due("no error", 1, () -> Check.run(b, "smooth 20;"));
        Check.due("none", 0, b::errorCode);
        Check.due("a script that ends early", 0, () -> Check.run(b, "smooth 0;"));
        Check.due("is no error", 0, b::errorCode);
    }

    @Sentence(of = "promise 7", says = "NONE if there was none or no such call")
    static void positionOfError() {
        ReliefBuilder b = new ReliefBuilder();
        Check.due("no call", -1, b::errorPosition);
        Check.argument("a wrong relief", () -> Check.read(b, "z"));
        Check.due("the first byte", 0, b::errorPosition);
        Check.due("no error", 1, () -> Check.read(b, "wall 3;"));
        Check.due("none", -1, b::errorPosition);
        Check.argument("a wrong script", () -> Check.run(b, "ease"));
        Check.due("the end", 4, b::errorPosition);
        Check.due("other calls", 1, () -> b.setHeight(0, 0, 2));
        Check.due("it stays", 4, b::errorPosition);
        Check.due("no error", 0, () -> Check.run(b, ""));
        Check.due("none", -1, b::errorPosition);
    }

    @Sentence(of = "promise 8", says = "what: 0 the width, 1 the number of rows, 2 the greatest height, 3 the glass")
    static void settings() {
        ReliefBuilder b = Check.relief("panel 7 5;steps 11 glass 66 base 2;wall 3;slope 4;");
        int[] want = {7, 5, 11, 66, 2, 3, 4};
        for (int what = 0; what < 7; what++) {
            int number = what;
            Check.due("setting " + what, want[what], () -> b.setting(number));
        }
    }

    @Sentence(of = "promise 8", says = "Throws IllegalArgumentException if what is out of range")
    static void noSetting() {
        ReliefBuilder b = new ReliefBuilder();
        Check.due("0 is in range", 4, () -> b.setting(0));
        Check.due("6 is in range", 1, () -> b.setting(6));
        Check.argument("-1", () -> b.setting(-1));
        Check.argument("7", () -> b.setting(7));
        Check.argument("the least int", () -> b.setting(Integer.MIN_VALUE));
        Check.argument("the greatest int", () -> b.setting(Integer.MAX_VALUE));
    }
}
