/** Section 2 and promises 14 to 24, 50 and 51: light, and what is done by it. */
final class LightBounds {
    /** Lights are 1, 1/2, 1/4, 1/8 and 1/16. */
    private static final String HALVES = "steps 4 glass 50 base 0;";
    /** Twice the same cell in the middle of others: the one in the lower row is further on the right. */
    private static final int[][] TWINS = {{3, 1}, {1, 2}};

    private LightBounds() {
    }

    private static float lightOf(int glass, int height) {
        float light = 1.0f;
        for (int n = 0; n < height; n++) {
            light = light * (glass / 100.0f);
        }
        return light;
    }

    private static float estimate(float c, float l, float r, float b, float a) {
        return ((((c * 4.0f + l) + r) + b) + a) / 8.0f;
    }

    private static ReliefBuilder twins(int others, int height) {
        ReliefBuilder b = Check.relief("panel 5 4;" + HALVES);
        b.fill(0, 0, 5, 4, others);
        for (int[] cell : TWINS) {
            b.setHeight(cell[0], cell[1], height);
        }
        return b;
    }

    // ---- section 2

    @Sentence(of = "section 2", says = "All arithmetic with floats is done in the order in which it is told here.")
    static void order() {
        ReliefBuilder b = Check.heights("steps 9 glass 90 base 0;", "0 9 0 / 1 0 9 / 0 2 0");
        float l = lightOf(90, 1);
        float r = lightOf(90, 9);
        float below = lightOf(90, 2);
        float told = estimate(1.0f, l, r, below, r);
        Check.due("as it is told", told, () -> b.estimate(1, 1));
        Check.due("right ahead of left is another float", false, () -> told == estimate(1.0f, r, l, below, r));
        Check.due("below ahead of right is another float", false, () -> told == estimate(1.0f, l, below, r, r));
        Check.due("above ahead of below is another float", false, () -> told == estimate(1.0f, l, r, r, below));
        float power = lightOf(90, 3) * lightOf(90, 3) * lightOf(90, 3);
        Check.due("a light is made step by step", r, () -> b.light(9));
        Check.due("as a power it is another float", false, () -> r == power);
    }

    @Sentence(of = "section 2", says = "The light of a height h is 1.0f, multiplied h times by (glass / 100.0f).")
    static void lights() {
        for (int glass : new int[] {10, 11, 33, 50, 98, 99}) {
            ReliefBuilder b = Check.relief("panel 1 1;steps 20 glass " + glass + " base 0;");
            Check.due("none", 1.0f, () -> b.light(0));
            Check.due("once", glass / 100.0f, () -> b.light(1));
            for (int height = 0; height <= 20; height++) {
                int h = height;
                Check.due("glass " + glass + " height " + h, lightOf(glass, h), () -> b.light(h));
            }
        }
    }

    @Sentence(of = "section 2", says = "What is wanted at a cell is its tone / 255.0f.")
    static void wishes() {
        ReliefBuilder b = Check.relief("row 0 1 254 255;");
        Check.due("0", 0.0f, () -> b.wanted(0, 0));
        Check.due("1", 1 / 255.0f, () -> b.wanted(1, 0));
        Check.due("254", 254 / 255.0f, () -> b.wanted(2, 0));
        Check.due("255", 1.0f, () -> b.wanted(3, 0));
    }

    @Sentence(of = "section 2", says = "of all heights from the base to the greatest one, the one whose light differs")
    static void nearestLight() {
        ReliefBuilder b = Check.relief("steps 4 glass 50 base 1;");
        Check.due("not below the base", 1, () -> b.heightFor(255));
        Check.due("not above the greatest", 4, () -> b.heightFor(0));
        Check.due("a light above is nearer", 1, () -> b.heightFor(96));
        Check.due("a light below is nearer", 2, () -> b.heightFor(95));
        ReliefBuilder one = Check.relief("steps 4 glass 50 base 4;");
        Check.due("the base alone", 4, () -> one.heightFor(255));
        Check.due("the base alone", 4, () -> one.heightFor(0));
    }

    @Sentence(of = "section 2", says = "it least (by absolute value), the lowest one of several")
    static void lowestOfSeveral() {
        // 204 / 255 is as far from 1 as from 60 percent, as floats, too.
        ReliefBuilder b = Check.relief("steps 20 glass 60 base 0;");
        Check.due("a tie of two lights", 0, () -> b.heightFor(204));
        Check.due("beside the tie", 1, () -> b.heightFor(203));
        Check.due("beside the tie", 0, () -> b.heightFor(205));
        Check.due("when a tone is set", 0, () -> b.setTone(0, 0, 204));
        // As floats all these lights are 1 away from 1.
        ReliefBuilder dark = Check.relief("panel 4 1;steps 20 glass 10 base 10;row 255 0 254 1;");
        Check.due("a tie of all lights", 10, () -> dark.heightFor(255));
        Check.due("no tie", 20, () -> dark.heightFor(0));
        Check.due("when a text was read", "10 20 10 10", () -> Check.picture(dark));
    }

    @Sentence(of = "section 2", says = "When a text was read, and when a tone is set, a cell gets the height for what")
    static void heightsOfTones() {
        ReliefBuilder b = Check.relief("panel 2 2;row 0 255;" + HALVES);
        Check.due("steps told behind the row", "0 0 / 4 0", () -> Check.picture(b));
        b.fill(0, 0, 2, 2, 3);
        b.setTone(0, 0, 0);
        Check.due("that cell alone", "3 3 / 4 3", () -> Check.picture(b));
        b.setTone(1, 1, 255);
        Check.due("the tone that it had", "3 0 / 4 3", () -> Check.picture(b));
    }

    @Sentence(of = "section 2", says = "for a neighbor that is not there c is used")
    static void missingNeighbors() {
        ReliefBuilder b = Check.heights("steps 9 glass 70 base 0;", "1 2 3 / 4 5 6 / 7 8 9");
        float[] l = new float[10];
        for (int h = 0; h < 10; h++) {
            l[h] = lightOf(70, h);
        }
        Check.due("all are there", estimate(l[5], l[4], l[6], l[8], l[2]), () -> b.estimate(1, 1));
        Check.due("left", estimate(l[4], l[4], l[5], l[7], l[1]), () -> b.estimate(0, 1));
        Check.due("right", estimate(l[6], l[5], l[6], l[9], l[3]), () -> b.estimate(2, 1));
        Check.due("below", estimate(l[8], l[7], l[9], l[8], l[5]), () -> b.estimate(1, 0));
        Check.due("above", estimate(l[2], l[1], l[3], l[5], l[2]), () -> b.estimate(1, 2));
        Check.due("left and below", estimate(l[7], l[7], l[8], l[7], l[4]), () -> b.estimate(0, 0));
        Check.due("right and below", estimate(l[9], l[8], l[9], l[9], l[6]), () -> b.estimate(2, 0));
        Check.due("left and above", estimate(l[1], l[1], l[2], l[4], l[1]), () -> b.estimate(0, 2));
        Check.due("right and above", estimate(l[3], l[2], l[3], l[6], l[3]), () -> b.estimate(2, 2));
        ReliefBuilder one = Check.relief("panel 1 1;steps 20 glass 37 base 20;");
        float c = lightOf(37, 20);
        Check.due("all four", estimate(c, c, c, c, c), () -> one.estimate(0, 0));
        ReliefBuilder wide = Check.relief("panel 16 12;steps 9 glass 70 base 0;");
        wide.setHeight(15, 5, 9);
        Check.due("the end of the row below is no neighbor", 1.0f, () -> wide.estimate(0, 6));
        Check.due("neither is it its own row's", 1.0f, () -> wide.estimate(0, 5));
    }

    @Sentence(of = "section 2", says = "The error of a cell is its estimate less what is wanted at it.")
    static void errors() {
        ReliefBuilder b = Check.relief("panel 1 1;" + HALVES);
        Check.due("as wanted", 0.0f, () -> b.error(0, 0));
        b.setHeight(0, 0, 1);
        Check.due("too dark", -0.5f, () -> b.error(0, 0));
        b.setTone(0, 0, 0);
        b.setHeight(0, 0, 0);
        Check.due("too bright", 1.0f, () -> b.error(0, 0));
    }

    // ---- promises 14 to 18

    @Sentence(of = "promise 14", says = "height: 0 to the greatest height")
    static void lightHeights() {
        ReliefBuilder b = Check.relief("steps 4 glass 50 base 3;");
        Check.due("0, below the base", 1.0f, () -> b.light(0));
        Check.due("2, below the base", 0.25f, () -> b.light(2));
        Check.due("the greatest", 0.0625f, () -> b.light(4));
        Check.argument("behind it", () -> b.light(5));
        Check.argument("-1", () -> b.light(-1));
    }

    @Sentence(of = "promise 14", says = "Returns the light of a height.")
    static void lightAnswered() {
        ReliefBuilder b = Check.relief("steps 1 glass 10 base 0;");
        Check.due("0", 1.0f, () -> b.light(0));
        Check.due("1", 0.1f, () -> b.light(1));
        Check.read(b, "steps 20 glass 99 base 0;");
        Check.due("of another glass", 0.99f, () -> b.light(1));
        Check.due("of 20 steps", lightOf(99, 20), () -> b.light(20));
    }

    @Sentence(of = "promise 14", says = "Throws IllegalArgumentException if height is out of range")
    static void noLight() {
        Whole.argument("-1", b -> b.light(-1));
        Whole.argument("10 of 9", b -> b.light(10));
        Whole.argument("the least int", b -> b.light(Integer.MIN_VALUE));
        Whole.argument("the greatest int", b -> b.light(Integer.MAX_VALUE));
        ReliefBuilder b = Check.relief("steps 20 glass 80 base 0;");
        Check.due("20 of 20", lightOf(80, 20), () -> b.light(20));
        Check.argument("21 of 20", () -> b.light(21));
    }

    @Sentence(of = "promise 15", says = "tone: 0 to 255")
    static void heightForTones() {
        ReliefBuilder b = Check.relief(HALVES);
        int[] limits = {24, 48, 96, 192, 256};
        int height = 4;
        for (int tone = 0; tone < 256; tone++) {
            height -= tone == limits[4 - height] ? 1 : 0;
            int t = tone;
            Check.due("tone " + tone, height, () -> b.heightFor(t));
        }
        Check.argument("256", () -> b.heightFor(256));
        Check.argument("-1", () -> b.heightFor(-1));
    }

    @Sentence(of = "promise 15", says = "Throws IllegalArgumentException if tone is out of range")
    static void noHeightFor() {
        Whole.argument("-1", b -> b.heightFor(-1));
        Whole.argument("256", b -> b.heightFor(256));
        Whole.argument("the least int", b -> b.heightFor(Integer.MIN_VALUE));
        Whole.argument("the greatest int", b -> b.heightFor(Integer.MAX_VALUE));
    }

    @Sentence(of = "promise 16", says = "Returns what is wanted at a cell.")
    static void wanted() {
        ReliefBuilder b = Check.relief("panel 16 12;row 0 0 0 0 0 0 0 0 0 0 0 0 0 0 0 0;");
        Check.due("the first cell", 0.0f, () -> b.wanted(0, 0));
        Check.due("the last cell", 1.0f, () -> b.wanted(15, 11));
        Check.index("behind it", () -> b.wanted(16, 11));
        Check.index("above it", () -> b.wanted(15, 12));
    }

    @Sentence(of = "promise 17", says = "Returns the estimate of a cell.")
    static void estimates() {
        ReliefBuilder b = Check.relief("panel 16 12;" + HALVES);
        b.setHeight(15, 11, 1);
        Check.due("the first cell", 1.0f, () -> b.estimate(0, 0));
        Check.due("the last cell", estimate(0.5f, 1.0f, 0.5f, 1.0f, 0.5f), () -> b.estimate(15, 11));
        Check.index("behind it", () -> b.estimate(16, 11));
        Check.index("above it", () -> b.estimate(15, 12));
    }

    @Sentence(of = "promise 18", says = "Returns the error of a cell.")
    static void errorOfCells() {
        ReliefBuilder b = Check.relief("panel 16 12;" + HALVES);
        b.setHeight(15, 11, 1);
        Check.due("the first cell", 0.0f, () -> b.error(0, 0));
        Check.due("the last cell", estimate(0.5f, 1.0f, 0.5f, 1.0f, 0.5f) - 1.0f, () -> b.error(15, 11));
        Check.index("behind it", () -> b.error(16, 11));
        Check.index("above it", () -> b.error(15, 12));
    }

    // ---- promises 19 to 24

    @Sentence(of = "promise 19", says = "beginning with 0.0f, divided by the number of cells")
    static void meanError() {
        Check.due("nothing is wrong", 0.0f, () -> Check.relief("panel 16 12;" + HALVES).meanError());
        ReliefBuilder one = Check.relief("panel 1 1;steps 8 glass 80 base 1;");
        float error = 1.0f - estimate(0.8f, 0.8f, 0.8f, 0.8f, 0.8f);
        Check.due("one cell", error, one::meanError);
        Check.due("it is too dark", -error, () -> one.error(0, 0));
        ReliefBuilder all = Check.relief("panel 16 12;steps 8 glass 80 base 1;");
        float sum = 0.0f;
        for (int n = 0; n < 192; n++) {
            sum = sum + error;
        }
        float mean = sum / 192;
        Check.due("192 cells", mean, all::meanError);
        Check.due("which is not the error of one", false, () -> mean == error);
        Check.due("errors do not cancel out", 0.5f,
                () -> Check.heights("steps 4 glass 50 base 0;row 0 255;", "1 1").meanError());
    }

    @Sentence(of = "promise 20",
            says = "the cell with the greatest absolute value of the error, the first one of several")
    static void worstCell() {
        Check.due("one cell", 0, () -> Check.relief("panel 1 1;").worstCell());
        Check.due("all as bad", 0, () -> Check.relief("panel 16 12;").worstCell());
        Check.due("none is bad", 0, () -> Check.relief("panel 16 12;" + HALVES).worstCell());
        Check.due("the first one of two by rows", 16 + 3, () -> twins(0, 4).worstCell());
        Check.due("too bright is as bad as too dark", 0, () -> Check.heights(HALVES + "row 0 255;", "1 1").worstCell());
        Check.due("too dark is as bad as too bright", 0, () -> Check.heights(HALVES + "row 255 0;", "1 1").worstCell());
        Check.due("too bright is worse", 1, () -> Check.heights(HALVES + "row 255 0;", "0 0").worstCell());
        Check.due("too dark is worse", 1, () -> Check.heights(HALVES + "row 0 255;", "4 4").worstCell());
        Check.due("the second cell", 1,
                () -> Check.heights(HALVES + "row 255 0;row 255 255;", "0 0 / 0 0").worstCell());
        Check.due("the first one of the second row", 16,
                () -> Check.heights(HALVES + "row 255 255;row 0 255;", "0 0 / 0 0").worstCell());
        ReliefBuilder last = Check.relief("panel 16 12;" + HALVES);
        last.setHeight(15, 11, 4);
        Check.due("the last cell", 16 * 11 + 15, last::worstCell);
    }

    @Sentence(of = "promise 21", says = "Float.floatToIntBits of the estimate of the cell (ints, with overflow)")
    static void fingerprint() {
        for (int glass : new int[] {10, 37, 99}) {
            ReliefBuilder one = Check.relief("panel 1 1;steps 20 glass " + glass + " base 0;");
            for (int height = 0; height <= 20; height++) {
                one.setHeight(0, 0, height);
                float c = lightOf(glass, height);
                int want = 17 * 31 + Float.floatToIntBits(estimate(c, c, c, c, c));
                Check.due("one cell, glass " + glass + " height " + height, want, one::fingerprint);
            }
        }
        ReliefBuilder all = Check.relief("panel 16 12;" + HALVES);
        long number = 17;
        for (int n = 0; n < 192; n++) {
            number = number * 31 + Float.floatToIntBits(1.0f) & 0xffffffffL;
        }
        int wrapped = (int) number;
        Check.due("it overflows 192 times", wrapped, all::fingerprint);
        ReliefBuilder two = Check.heights(HALVES, "0 / 4");
        int low = Float.floatToIntBits(estimate(0.0625f, 0.0625f, 0.0625f, 0.0625f, 1.0f));
        int high = Float.floatToIntBits(estimate(1.0f, 1.0f, 1.0f, 0.0625f, 1.0f));
        Check.due("the lowest row first", (17 * 31 + low) * 31 + high, two::fingerprint);
    }

    @Sentence(of = "promise 22", says = "the cell with the greatest estimate, the first one of several")
    static void brightest() {
        Check.due("one cell", 0, () -> Check.relief("panel 1 1;").brightest());
        Check.due("all as bright", 0, () -> Check.relief("panel 16 12;").brightest());
        Check.due("the first one of two by rows", 16 + 3, () -> twins(4, 0).brightest());
        Check.due("the second cell", 1, () -> Check.heights(HALVES, "4 4 4 / 4 0 4").brightest());
        Check.due("the first one of the second row", 16, () -> Check.heights(HALVES, "0 4 / 4 4").brightest());
        ReliefBuilder last = Check.relief("panel 16 12;" + HALVES);
        last.fill(0, 0, 16, 12, 4);
        last.setHeight(15, 11, 3);
        Check.due("the last cell", 16 * 11 + 15, last::brightest);
        last.setHeight(0, 0, 3);
        Check.due("the first cell is as bright", 0, last::brightest);
    }

    @Sentence(of = "promise 23", says = "(added from the left, beginning with 0.0f), the lowest one of several")
    static void darkestRow() {
        Check.due("one row", 0, () -> Check.relief("panel 3 1;").darkestRow());
        Check.due("all as dark", 0, () -> Check.relief("panel 16 12;").darkestRow());
        Check.due("two as dark", 1, () -> Check.heights(HALVES, "0 / 4 / 0 / 4 / 0").darkestRow());
        Check.due("the lower one is a little less dark", 3,
                () -> Check.heights(HALVES, "0 / 4 / 0 / 3 / 0").darkestRow());
        ReliefBuilder last = Check.relief("panel 16 12;" + HALVES);
        last.fill(0, 11, 16, 1, 4);
        Check.due("the uppermost one", 11, last::darkestRow);
        last.fill(0, 0, 16, 1, 4);
        Check.due("the lowest one is as dark", 0, last::darkestRow);
    }

    @Sentence(of = "promise 24", says = "Returns the greatest estimate of all cells less the least one.")
    static void contrast() {
        Check.due("one cell", 0.0f, () -> Check.relief("panel 1 1;").contrast());
        Check.due("all as bright", 0.0f, () -> Check.relief("panel 16 12;").contrast());
        float bright = estimate(1.0f, 1.0f, 0.5f, 1.0f, 1.0f);
        float dark = estimate(0.5f, 1.0f, 0.5f, 0.5f, 0.5f);
        Check.due("the first is brighter", bright - dark, () -> Check.heights(HALVES, "0 1").contrast());
        Check.due("the last is brighter", bright - dark, () -> Check.heights(HALVES, "1 0").contrast());
        Check.due("the first one of the second row", 1.0f - estimate(0.5f, 0.5f, 1.0f, 1.0f, 0.5f),
                () -> Check.heights(HALVES, "1 0 0 / 0 0 0").contrast());
        ReliefBuilder wide = Check.relief("panel 16 12;" + HALVES);
        wide.setHeight(15, 11, 1);
        Check.due("the last cell of all", 1.0f - estimate(0.5f, 1.0f, 0.5f, 1.0f, 0.5f), wide::contrast);
    }

    // ---- promise 50

    @Sentence(of = "promise 50", says = "at its beginning this is 0.0f")
    static void ditherRows() {
        ReliefBuilder b = Check.relief("panel 3 3;steps 1 glass 10 base 0;" + "row 128 128 128;".repeat(3));
        b.dither();
        Check.due("all rows begin alike", "1 0 1 / 1 0 1 / 1 0 1", () -> Check.picture(b));
        ReliefBuilder column = Check.relief("panel 1 12;steps 1 glass 10 base 0;" + "row 128;".repeat(12));
        Check.due("rows of one cell are as without it", 0, column::dither);
        Check.due("rows of one cell are as without it", 12, column::volume);
        // 51 leaves over 1/5 less 1/4, and 204 is then as far from 1 as from 1/2.
        ReliefBuilder tie = Check.relief("panel 2 1;" + HALVES + "row 51 204;");
        Check.due("the lowest one of several", "2 0", () -> Check.picture(tie));
        tie.setHeight(1, 0, 4);
        Check.due("the lowest one of several", 1, tie::dither);
        Check.due("the lowest one of several", "2 0", () -> Check.picture(tie));
        ReliefBuilder base = Check.relief("panel 16 1;steps 20 glass 10 base 20;");
        Check.due("far more than any light is wanted", 0, base::dither);
        ReliefBuilder dark = Check.relief("panel 16 1;steps 1 glass 99 base 0;row" + " 0".repeat(16) + ";");
        dark.fill(0, 0, 16, 1, 0);
        Check.due("far less than any light is wanted", 16, dark::dither);
        Check.due("far less than any light is wanted", 16, dark::volume);
    }

    @Sentence(of = "promise 50", says = "@return the number of cells whose height changed")
    static void ditherCount() {
        ReliefBuilder b = Check.relief("panel 16 12;" + HALVES);
        Check.due("none", 0, b::dither);
        b.fill(0, 0, 16, 12, 4);
        Check.due("all", 192, b::dither);
        b.setHeight(15, 11, 1);
        Check.due("one", 1, b::dither);
        Check.due("a height ahead of it does not matter", 0, b::volume);
    }

    // ---- promise 51

    @Sentence(of = "promise 51", says = "(as far as they are between the base and the greatest height)")
    static void polishHeights() {
        ReliefBuilder low = Check.relief("panel 1 1;steps 4 glass 50 base 2;");
        Check.due("not below the base", 0, low::polish);
        low.setHeight(0, 0, 3);
        Check.due("down to the base", 1, low::polish);
        Check.due("down to the base", 2, () -> low.height(0, 0));
        ReliefBuilder high = Check.relief("panel 1 1;steps 4 glass 50 base 2;row 0;");
        Check.due("not above the greatest", 0, high::polish);
        high.setHeight(0, 0, 3);
        Check.due("up to the greatest", 1, high::polish);
        Check.due("up to the greatest", 4, () -> high.height(0, 0));
        ReliefBuilder top = Check.relief("panel 1 1;steps 20 glass 50 base 0;row 0;");
        Check.due("not above 20", 0, top::polish);
        ReliefBuilder bottom = Check.relief("panel 1 1;steps 20 glass 50 base 0;");
        Check.due("not below 0", 0, bottom::polish);
        ReliefBuilder alone = Check.relief("panel 1 1;steps 4 glass 50 base 4;");
        Check.due("one height alone", 0, alone::polish);
        ReliefBuilder far = Check.relief("panel 1 1;" + HALVES);
        far.setHeight(0, 0, 4);
        far.polish();
        Check.due("no further than one down", 3, () -> far.height(0, 0));
        ReliefBuilder deep = Check.relief("panel 1 1;" + HALVES + "row 0;");
        deep.setHeight(0, 0, 0);
        deep.polish();
        Check.due("no further than one up", 1, () -> deep.height(0, 0));
    }

    @Sentence(of = "promise 51", says = "on the left, on the right, below and above (as far as they are there)")
    static void polishNeighbors() {
        ReliefBuilder one = Check.relief("panel 1 1;" + HALVES + "row 128;");
        one.setHeight(0, 0, 2);
        Check.due("none", 1, one::polish);
        Check.due("none", 1, () -> one.height(0, 0));
        // The cell of 148 alone would rather be higher, but its white neighbor has it lower.
        for (String panel : new String[] {"2 1;row 148 255", "2 1;row 255 148", "1 2;row 148;row 255",
            "1 2;row 255;row 148"}) {
            ReliefBuilder b = Check.relief("panel " + panel + ";steps 1 glass 10 base 0;");
            b.fill(0, 0, b.setting(0), b.setting(1), 0);
            Check.due("panel " + panel, 0, b::polish);
        }
        // Here three white neighbors would not be enough for that, but four are.
        ReliefBuilder all = Check.relief("panel 3 3;steps 1 glass 10 base 0;row 255 255 255;row 255 148 255;");
        Check.due("all four", 0, all::polish);
    }

    @Sentence(of = "promise 51", says = "beginning with 0.0f; the lowest height of several")
    static void polishTies() {
        // As floats the errors of all these heights are -1.
        ReliefBuilder b = Check.relief("panel 1 1;steps 20 glass 10 base 10;");
        b.setHeight(0, 0, 15);
        Check.due("of three", 1, b::polish);
        Check.due("of three", 14, () -> b.height(0, 0));
        b.setHeight(0, 0, 20);
        b.polish();
        Check.due("of two at the greatest height", 19, () -> b.height(0, 0));
        b.setHeight(0, 0, 10);
        Check.due("of two at the base", 0, b::polish);
        // 204 / 255 is as far from 1 as from 60 percent.
        ReliefBuilder tie = Check.relief("panel 1 1;steps 2 glass 60 base 0;row 204;");
        tie.setHeight(0, 0, 1);
        Check.due("too dark or too bright", 1, tie::polish);
        Check.due("too dark or too bright", 0, () -> tie.height(0, 0));
    }

    @Sentence(of = "promise 51", says = "@return the number of cells whose height changed")
    static void polishCount() {
        ReliefBuilder b = Check.relief("panel 16 12;" + HALVES);
        Check.due("none", 0, b::polish);
        b.fill(0, 0, 16, 12, 4);
        Check.due("all", 192, b::polish);
        Check.due("each once", 192 * 3, b::volume);
        b.fill(0, 0, 16, 12, 0);
        b.setHeight(15, 11, 1);
        Check.due("one", 1, b::polish);
        Check.due("one", 0, b::volume);
    }
}
