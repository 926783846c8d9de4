/** Promises 47 to 49 and 52 to 54: changes of tones and heights. */
final class ChangeBounds {
    /** Lights are 1, 1/2, 1/4, 1/8 and 1/16. */
    private static final String HALVES = "steps 4 glass 50 base 0;";

    private ChangeBounds() {
    }

    // ---- setTone() and setHeight()

    @Sentence(of = "promise 47", says = "Sets the tone of a cell, which gets the height for it.")
    static void setTone() {
        ReliefBuilder b = Check.heights(HALVES, "3 3 / 3 3");
        b.setTone(1, 1, 128);
        Check.due("that cell", "255 128 / 255 255", () -> Check.tones(b));
        Check.due("no other cell", "3 1 / 3 3", () -> Check.picture(b));
        b.setTone(0, 0, 255);
        Check.due("its tone was the same", "3 1 / 0 3", () -> Check.picture(b));
    }

    @Sentence(of = "promise 47", says = "tone: 0 to 255")
    static void rightTones() {
        for (int tone = 0; tone < 256; tone++) {
            int number = tone;
            ReliefBuilder b = new ReliefBuilder();
            b.setTone(0, 0, number);
            Check.due("tone " + tone, number, () -> b.tone(0, 0));
        }
        ReliefBuilder other = Check.relief("panel 1 1;" + HALVES);
        Check.argument("256", () -> other.setTone(0, 0, 256));
        Check.argument("-1", () -> other.setTone(0, 0, -1));
    }

    @Sentence(of = "promise 47", says = "Returns this height.")
    static void heightOfTone() {
        ReliefBuilder b = Check.relief("panel 1 1;" + HALVES);
        int[][] limits = {{0, 4}, {23, 4}, {24, 3}, {47, 3}, {48, 2}, {95, 2}, {96, 1}, {191, 1}, {192, 0}, {255, 0}};
        for (int[] limit : limits) {
            Check.due("tone " + limit[0], limit[1], () -> b.setTone(0, 0, limit[0]));
            Check.due("tone " + limit[0], limit[1], () -> b.height(0, 0));
        }
    }

    @Sentence(of = "promise 47", says = "Throws IllegalArgumentException if tone is out of range")
    static void wrongTone() {
        Whole.argument("256", b -> b.setTone(1, 1, 256));
        Whole.argument("-1", b -> b.setTone(1, 1, -1));
        Whole.argument("the least int", b -> b.setTone(1, 1, Integer.MIN_VALUE));
        Whole.argument("the greatest int", b -> b.setTone(1, 1, Integer.MAX_VALUE));
    }

    @Sentence(of = "promise 48", says = "height: the base to the greatest height")
    static void rightHeights() {
        for (int base = 0; base <= 4; base++) {
            ReliefBuilder b = Check.relief("panel 1 1;steps 4 glass 50 base " + base + ";");
            for (int height = 0; height <= 5; height++) {
                int h = height;
                if (h >= base && h <= 4) {
                    b.setHeight(0, 0, h);
                    Check.due("base " + base + " height " + h, h, () -> b.height(0, 0));
                } else {
                    Check.argument("base " + base + " height " + h, () -> b.setHeight(0, 0, h));
                }
            }
        }
        ReliefBuilder high = Check.relief("panel 1 1;steps 20 glass 50 base 20;");
        Check.due("20 alone", 20, () -> high.setHeight(0, 0, 20));
        Check.argument("19", () -> high.setHeight(0, 0, 19));
        Check.argument("21", () -> high.setHeight(0, 0, 21));
    }

    @Sentence(of = "promise 48", says = "Returns the previous height.")
    static void previousHeight() {
        ReliefBuilder b = Check.relief("panel 2 1;" + HALVES);
        Check.due("the first", 0, () -> b.setHeight(1, 0, 4));
        Check.due("the same again", 4, () -> b.setHeight(1, 0, 4));
        Check.due("back", 4, () -> b.setHeight(1, 0, 0));
        Check.due("another cell", 0, () -> b.setHeight(0, 0, 1));
    }

    @Sentence(of = "promise 48", says = "Throws IllegalArgumentException if height is out of range")
    static void wrongHeight() {
        Whole.argument("below the base", b -> b.setHeight(1, 1, 0));
        Whole.argument("above the greatest", b -> b.setHeight(1, 1, 10));
        Whole.argument("-1", b -> b.setHeight(1, 1, -1));
        Whole.argument("the least int", b -> b.setHeight(1, 1, Integer.MIN_VALUE));
        Whole.argument("the greatest int", b -> b.setHeight(1, 1, Integer.MAX_VALUE));
    }

    // ---- fill()

    @Sentence(of = "promise 49", says = "Sets the height of all cells of a rectangle.")
    static void fillAll() {
        ReliefBuilder b = Check.relief("panel 4 3;" + HALVES);
        b.fill(1, 1, 2, 1, 4);
        Check.due("those alone", "0 0 0 0 / 0 4 4 0 / 0 0 0 0", () -> Check.picture(b));
        b.fill(0, 0, 4, 3, 2);
        Check.due("the whole panel", "2 2 2 2 / 2 2 2 2 / 2 2 2 2", () -> Check.picture(b));
        b.fill(3, 2, 1, 1, 0);
        Check.due("one cell", "2 2 2 0 / 2 2 2 2 / 2 2 2 2", () -> Check.picture(b));
        Check.due("tones stay", "255 255 255 255 / 255 255 255 255 / 255 255 255 255", () -> Check.tones(b));
    }

    @Sentence(of = "promise 49", says = "x: x of its lowest left cell")
    static void fillX() {
        Check.due("0", 1, () -> Check.relief("panel 4 3;").fill(0, 1, 1, 1, 4));
        Check.due("3", 1, () -> Check.relief("panel 4 3;").fill(3, 1, 1, 1, 4));
        Whole.index("-1", b -> b.fill(-1, 1, 2, 1, 4));
        Whole.index("3 of 3", b -> b.fill(3, 1, 1, 1, 4));
    }

    @Sentence(of = "promise 49", says = "y: y of its lowest left cell")
    static void fillY() {
        Check.due("0", 1, () -> Check.relief("panel 4 3;").fill(1, 0, 1, 1, 4));
        Check.due("2", 1, () -> Check.relief("panel 4 3;").fill(1, 2, 1, 1, 4));
        Whole.index("-1", b -> b.fill(1, -1, 1, 2, 4));
        Whole.index("2 of 2", b -> b.fill(1, 2, 1, 1, 4));
    }

    @Sentence(of = "promise 49", says = "width: 1 or greater; it must not leave the panel")
    static void fillWidth() {
        Check.due("1", 1, () -> Check.relief("panel 4 3;").fill(0, 0, 1, 1, 4));
        Check.due("4 of 4", 4, () -> Check.relief("panel 4 3;").fill(0, 0, 4, 1, 4));
        Check.due("3 from 1", 3, () -> Check.relief("panel 4 3;").fill(1, 0, 3, 1, 4));
        Whole.argument("0", b -> b.fill(0, 0, 0, 1, 4));
        Whole.argument("-1", b -> b.fill(2, 0, -1, 1, 4));
        Whole.argument("4 of 3", b -> b.fill(0, 0, 4, 1, 4));
        Whole.argument("3 from 1 of 3", b -> b.fill(1, 0, 3, 1, 4));
        Whole.argument("the sum wraps around", b -> b.fill(1, 0, Integer.MAX_VALUE, 1, 4));
        Whole.argument("the least int", b -> b.fill(0, 0, Integer.MIN_VALUE, 1, 4));
        Check.due("16 of 16", 16, () -> Check.relief("panel 16 12;").fill(0, 11, 16, 1, 4));
        Check.argument("17 of 16", () -> Check.relief("panel 16 12;").fill(0, 10, 17, 1, 4));
    }

    @Sentence(of = "promise 49", says = "rows: 1 or greater; it must not leave the panel")
    static void fillRows() {
        Check.due("1", 1, () -> Check.relief("panel 4 3;").fill(0, 0, 1, 1, 4));
        Check.due("3 of 3", 3, () -> Check.relief("panel 4 3;").fill(0, 0, 1, 3, 4));
        Check.due("2 from 1", 2, () -> Check.relief("panel 4 3;").fill(0, 1, 1, 2, 4));
        Whole.argument("0", b -> b.fill(0, 0, 1, 0, 4));
        Whole.argument("-1", b -> b.fill(0, 1, 1, -1, 4));
        Whole.argument("3 of 2", b -> b.fill(0, 0, 1, 3, 4));
        Whole.argument("2 from 1 of 2", b -> b.fill(0, 1, 1, 2, 4));
        Whole.argument("the sum wraps around", b -> b.fill(0, 1, 1, Integer.MAX_VALUE, 4));
        Whole.argument("the least int", b -> b.fill(0, 0, 1, Integer.MIN_VALUE, 4));
        Check.due("12 of 12", 12, () -> Check.relief("panel 16 12;").fill(15, 0, 1, 12, 4));
        Check.argument("13 of 12", () -> Check.relief("panel 16 12;").fill(15, 0, 1, 13, 4));
    }

    @Sentence(of = "promise 49", says = "height: the base to the greatest height")
    static void fillHeight() {
        ReliefBuilder b = Check.relief("panel 2 1;steps 4 glass 50 base 2;");
        Check.argument("below the base", () -> b.fill(0, 0, 2, 1, 1));
        Check.due("the greatest", 2, () -> b.fill(0, 0, 2, 1, 4));
        Check.due("the base", 2, () -> b.fill(0, 0, 2, 1, 2));
        Check.argument("above the greatest", () -> b.fill(0, 0, 2, 1, 5));
    }

    @Sentence(of = "promise 49", says = "Returns the number of cells whose height changed.")
    static void fillCount() {
        ReliefBuilder b = Check.relief("panel 16 12;" + HALVES);
        Check.due("none", 0, () -> b.fill(0, 0, 16, 12, 0));
        Check.due("all", 192, () -> b.fill(0, 0, 16, 12, 4));
        Check.due("none again", 0, () -> b.fill(0, 0, 16, 12, 4));
        b.setHeight(15, 11, 0);
        b.setHeight(7, 5, 0);
        Check.due("two", 2, () -> b.fill(0, 0, 16, 12, 4));
    }

    @Sentence(of = "promise 49", says = "Throws IllegalArgumentException if width, rows or height is out of range")
    static void wrongFill() {
        Whole.argument("width alone", b -> b.fill(0, 0, 0, 2, 4));
        Whole.argument("rows alone", b -> b.fill(0, 0, 3, 0, 4));
        Whole.argument("height alone", b -> b.fill(0, 0, 3, 2, 0));
        Whole.argument("height alone", b -> b.fill(0, 0, 3, 2, 10));
        Whole.argument("the last row leaves the panel", b -> b.fill(0, 0, 3, 3, 4));
        Whole.argument("the last column leaves the panel", b -> b.fill(0, 0, 4, 2, 4));
        Whole.argument("the greatest ints", b -> b.fill(2, 1, Integer.MAX_VALUE, Integer.MAX_VALUE, Integer.MAX_VALUE));
    }

    // ---- invert(), lighten() and mirror()

    @Sentence(of = "promise 52", says = "Each tone t becomes 255 - t")
    static void invert() {
        ReliefBuilder b = Check.relief("panel 4 1;" + HALVES + "row 0 255 127 128;");
        Check.due("two heights change", 2, b::invert);
        Check.due("tones", "255 0 128 127", () -> Check.tones(b));
        Check.due("heights", "0 4 1 1", () -> Check.picture(b));
        b.fill(0, 0, 4, 1, 3);
        b.invert();
        Check.due("tones are back", "0 255 127 128", () -> Check.tones(b));
        Check.due("heights that were built are gone", "4 0 1 1", () -> Check.picture(b));
    }

    @Sentence(of = "promise 52", says = "@return the number of cells whose height changed")
    static void invertCount() {
        Check.due("none", 0, () -> Check.relief(HALVES + "row 127 128 127 128;"
                + "row 127 128 127 128;".repeat(3)).invert());
        Check.due("all", 192, () -> Check.relief("panel 16 12;" + HALVES).invert());
        Check.due("one", 1, () -> Check.relief("panel 2 1;" + HALVES + "row 127 0;").invert());
    }

    @Sentence(of = "promise 53", says = "Each tone increases by a number, but is at least 0 and at most 255")
    static void lighten() {
        ReliefBuilder b = Check.relief("panel 6 1;" + HALVES + "row 0 1 100 154 155 255;");
        b.lighten(100);
        Check.due("at most 255", "100 101 200 254 255 255", () -> Check.tones(b));
        b.lighten(-100);
        Check.due("what was cut off is gone", "0 1 100 154 155 155", () -> Check.tones(b));
        b.lighten(-100);
        Check.due("at least 0", "0 0 0 54 55 55", () -> Check.tones(b));
        Check.due("heights", "4 4 4 2 2 2", () -> Check.picture(b));
        b.lighten(1);
        Check.due("by 1", "1 1 1 55 56 56", () -> Check.tones(b));
        b.lighten(255);
        Check.due("all white", "255 255 255 255 255 255", () -> Check.tones(b));
        b.lighten(-255);
        Check.due("all black", "0 0 0 0 0 0", () -> Check.tones(b));
    }

    @Sentence(of = "promise 53", says = "by: -255 to 255")
    static void lightenBy() {
        ReliefBuilder b = Check.relief("panel 1 1;" + HALVES + "row 100;");
        Check.argument("256", () -> b.lighten(256));
        Check.argument("-256", () -> b.lighten(-256));
        Check.due("255", 1, () -> b.lighten(255));
        Check.due("-255", 1, () -> b.lighten(-255));
        Check.due("0", 0, () -> b.lighten(0));
        Check.due("254", 1, () -> b.lighten(254));
        Check.due("tone", 254, () -> b.tone(0, 0));
        Check.due("-254", 1, () -> b.lighten(-254));
        Check.due("tone", 0, () -> b.tone(0, 0));
    }

    @Sentence(of = "promise 53", says = "Returns the number of cells whose height changed.")
    static void lightenCount() {
        Check.due("none, white stays", 0, () -> Check.relief("panel 16 12;" + HALVES).lighten(255));
        Check.due("all", 192, () -> Check.relief("panel 16 12;" + HALVES).lighten(-255));
        Check.due("a tone alone", 0, () -> Check.relief("panel 16 12;" + HALVES).lighten(-1));
        Check.due("one", 1, () -> Check.relief("panel 2 1;" + HALVES + "row 191 192;").lighten(-1));
        ReliefBuilder built = Check.heights(HALVES, "3 0 0 / 0 0 4");
        Check.due("what was built, by 0", 2, () -> built.lighten(0));
    }

    @Sentence(of = "promise 53", says = "Throws IllegalArgumentException if by is out of range")
    static void wrongBy() {
        Whole.argument("256", b -> b.lighten(256));
        Whole.argument("-256", b -> b.lighten(-256));
        Whole.argument("the least int", b -> b.lighten(Integer.MIN_VALUE));
        Whole.argument("the greatest int", b -> b.lighten(Integer.MAX_VALUE));
    }

    @Sentence(of = "promise 54", says = "Exchanges left and right: tones and heights.")
    static void mirror() {
        ReliefBuilder one = Check.relief("panel 1 2;" + HALVES + "row 9;row 99;");
        one.mirror();
        Check.due("one column", "99 / 9", () -> Check.tones(one));
        ReliefBuilder odd = Check.relief("panel 3 1;" + HALVES + "row 1 2 3;");
        odd.setHeight(0, 0, 0);
        odd.setHeight(1, 0, 1);
        odd.setHeight(2, 0, 2);
        odd.mirror();
        Check.due("the middle stays", "3 2 1", () -> Check.tones(odd));
        Check.due("the middle stays", "2 1 0", () -> Check.picture(odd));
        ReliefBuilder wide = Check.relief("panel 16 1;" + HALVES + "row 0 1 2 3 4 5 6 7 8 9 10 11 12 13 14 15;");
        wide.mirror();
        Check.due("16 columns", "15 14 13 12 11 10 9 8 7 6 5 4 3 2 1 0", () -> Check.tones(wide));
        wide.mirror();
        Check.due("there and back", "0 1 2 3 4 5 6 7 8 9 10 11 12 13 14 15", () -> Check.tones(wide));
    }

    @Sentence(of = "promise 54", says = "@return the number of cells whose height changed")
    static void mirrorCount() {
        Check.due("one column", 0, () -> Check.heights("", "1 / 5 / 3").mirror());
        Check.due("as on the other side", 0, () -> Check.heights("", "5 3 5 / 4 1 4").mirror());
        Check.due("all but the middle", 4, () -> Check.heights("", "5 3 4 / 1 6 2").mirror());
        Check.due("all", 4, () -> Check.heights("", "5 3 / 1 2").mirror());
        Check.due("tones alone", 0, () -> Check.relief("panel 2 1;row 254 255;").mirror());
    }
}
