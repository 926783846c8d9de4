/** Promises 9 to 13 and 47 to 54 but light: cells, heights, and changes of tones and heights. */
public final class PanelTest {
    public static void main(String[] args) {
        cells();
        counts();
        steepest();
        setTone();
        setHeight();
        fill();
        fillErrors();
        invert();
        lighten();
        mirror();
        Check.end("PanelTest");
    }

    private static void cells() {
        ReliefBuilder b = Check.relief("panel 3 2;row 1 2 3;row 4 5 6;");
        b.setHeight(2, 1, 4);
        Check.due("9: tones", "4 5 6 / 1 2 3", () -> Check.tones(b));
        Check.due("10: heights", "8 8 4 / 8 8 8", () -> Check.picture(b));
        int[][] outside = {{-1, 0}, {3, 0}, {0, -1}, {0, 2}, {3, 2}, {Integer.MAX_VALUE, 0}, {0, Integer.MAX_VALUE},
            {Integer.MIN_VALUE, 1}, {1, Integer.MIN_VALUE}, {16, 0}, {0, 12}, {-1, 1}};
        for (int[] cell : outside) {
            Check.index("9: no cell", () -> b.tone(cell[0], cell[1]));
            Check.index("10: no cell", () -> b.height(cell[0], cell[1]));
        }
        ReliefBuilder wide = Check.relief("panel 16 12;");
        Check.due("9: the last cell", 255, () -> wide.tone(15, 11));
        Check.due("10: the last cell", 1, () -> wide.height(15, 11));
        Check.index("9: behind it", () -> wide.tone(16, 11));
        Check.index("10: behind it", () -> wide.height(15, 12));
    }

    private static void counts() {
        ReliefBuilder b = Check.heights("steps 5 glass 80 base 0;", "0 5 5 / 1 0 2");
        Check.due("11: volume", 13, b::volume);
        Check.due("12: 0", 2, () -> b.cellsOf(0));
        Check.due("12: 1", 1, () -> b.cellsOf(1));
        Check.due("12: 4", 0, () -> b.cellsOf(4));
        Check.due("12: 5", 2, () -> b.cellsOf(5));
        Check.argument("12: 6", () -> b.cellsOf(6));
        Check.argument("12: -1", () -> b.cellsOf(-1));
        ReliefBuilder wide = Check.relief("panel 16 12;steps 20 glass 80 base 20;");
        Check.due("11: the most", 3840, wide::volume);
        Check.due("12: the most", 192, () -> wide.cellsOf(20));
        Check.due("12: below the base", 0, () -> wide.cellsOf(0));
    }

    private static void steepest() {
        Check.due("13: one cell", 0, () -> Check.relief("panel 1 1;row 0;").steepest());
        Check.due("13: beside", 4, () -> Check.heights("", "1 1 1 / 1 5 2").steepest());
        Check.due("13: beside", 6, () -> Check.heights("", "1 7 2").steepest());
        Check.due("13: at the right end", 6, () -> Check.heights("", "1 1 7").steepest());
        Check.due("13: at the upper end", 6, () -> Check.heights("", "7 / 1 / 1").steepest());
        Check.due("13: above", 6, () -> Check.heights("", "7 / 1").steepest());
        Check.due("13: below", 6, () -> Check.heights("", "1 / 7").steepest());
        Check.due("13: not across a corner", 1, () -> Check.heights("", "2 3 / 1 2").steepest());
        Check.due("13: not round the edge", 1, () -> Check.heights("", "1 2 3 4 / 1 2 3 4").steepest());
        Check.due("13: in the uppermost row", 7, () -> Check.heights("", "1 1 8 8 / 1 2 3 4 / 1 1 1 1").steepest());
        Check.due("13: flat", 0, () -> Check.heights("", "3 3 / 3 3").steepest());
    }

    private static void setTone() {
        ReliefBuilder b = Check.relief("panel 2 2;steps 4 glass 50 base 0;");
        Check.due("47: black", 4, () -> b.setTone(0, 0, 0));
        Check.due("47: grey", 1, () -> b.setTone(1, 0, 128));
        Check.due("47: white", 0, () -> b.setTone(0, 0, 255));
        Check.due("47: tones", "255 255 / 255 128", () -> Check.tones(b));
        Check.due("47: heights", "0 0 / 0 1", () -> Check.picture(b));
        b.setHeight(1, 0, 4);
        Check.due("47: the same tone", 1, () -> b.setTone(1, 0, 128));
        Check.still("47: wrong calls", b, () -> {
            Check.index("47: x", () -> b.setTone(2, 0, 1));
            Check.index("47: y", () -> b.setTone(0, -1, 1));
            Check.index("47: x ahead of the tone", () -> b.setTone(-1, 0, 256));
            Check.argument("47: 256", () -> b.setTone(0, 0, 256));
            Check.argument("47: -1", () -> b.setTone(0, 0, -1));
        });
    }

    private static void setHeight() {
        ReliefBuilder b = Check.relief("panel 2 2;steps 5 glass 50 base 2;");
        Check.due("48: the previous one", 2, () -> b.setHeight(1, 1, 5));
        Check.due("48: the previous one", 5, () -> b.setHeight(1, 1, 2));
        Check.due("48: another cell", 2, () -> b.setHeight(0, 1, 3));
        Check.due("48: heights", "3 2 / 2 2", () -> Check.picture(b));
        Check.due("48: tones stay", "255 255 / 255 255", () -> Check.tones(b));
        Check.still("48: wrong calls", b, () -> {
            Check.argument("48: below the base", () -> b.setHeight(0, 0, 1));
            Check.argument("48: above the greatest", () -> b.setHeight(0, 0, 6));
            Check.argument("48: negative", () -> b.setHeight(0, 0, -1));
            Check.index("48: no cell first", () -> b.setHeight(2, 0, 6));
            Check.index("48: no cell", () -> b.setHeight(0, 2, 3));
        });
    }

    private static void fill() {
        ReliefBuilder b = Check.relief("panel 4 3;");
        Check.due("49: a part", 4, () -> b.fill(1, 1, 2, 2, 3));
        Check.due("49: heights", "1 3 3 1 / 1 3 3 1 / 1 1 1 1", () -> Check.picture(b));
        Check.due("49: those that change alone", 2, () -> b.fill(0, 2, 4, 1, 3));
        Check.due("49: none", 0, () -> b.fill(0, 2, 4, 1, 3));
        Check.due("49: all", 12, () -> b.fill(0, 0, 4, 3, 8));
        Check.due("49: one", 1, () -> b.fill(3, 2, 1, 1, 1));
        Check.due("49: heights", "8 8 8 1 / 8 8 8 8 / 8 8 8 8", () -> Check.picture(b));
        Check.due("49: tones stay", "255 255 255 255 / 255 255 255 255 / 255 255 255 255", () -> Check.tones(b));
    }

    private static void fillErrors() {
        ReliefBuilder b = Check.relief("panel 4 3;");
        Check.still("49: wrong calls", b, () -> {
            Check.index("49: x", () -> b.fill(4, 0, 1, 1, 1));
            Check.index("49: y", () -> b.fill(0, 3, 1, 1, 1));
            Check.index("49: x ahead of all others", () -> b.fill(-1, 0, 0, 0, 0));
            Check.argument("49: width 0", () -> b.fill(0, 0, 0, 1, 2));
            Check.argument("49: rows 0", () -> b.fill(0, 0, 1, 0, 2));
            Check.argument("49: width -1", () -> b.fill(1, 1, -1, 1, 2));
            Check.argument("49: rows -1", () -> b.fill(1, 1, 1, -1, 2));
            Check.argument("49: too wide", () -> b.fill(1, 0, 4, 1, 2));
            Check.argument("49: too many rows", () -> b.fill(0, 1, 1, 3, 2));
            Check.argument("49: far too wide", () -> b.fill(1, 0, Integer.MAX_VALUE, 1, 2));
            Check.argument("49: far too many rows", () -> b.fill(0, 1, 1, Integer.MAX_VALUE, 2));
            Check.argument("49: below the base", () -> b.fill(0, 0, 4, 3, 0));
            Check.argument("49: above the greatest", () -> b.fill(0, 0, 4, 3, 9));
        });
        Check.due("49: nothing to undo", -1, b::undo);
    }

    private static void invert() {
        ReliefBuilder b = Check.relief("panel 3 1;steps 4 glass 50 base 0;row 0 100 255;");
        Check.due("52: heights", "4 1 0", () -> Check.picture(b));
        Check.due("52: two change", 2, b::invert);
        Check.due("52: tones", "255 155 0", () -> Check.tones(b));
        Check.due("52: heights", "0 1 4", () -> Check.picture(b));
        b.setHeight(1, 0, 3);
        b.setHeight(2, 0, 0);
        Check.due("52: those that were built", 2, b::invert);
        Check.due("52: heights", "4 1 0", () -> Check.picture(b));
    }

    private static void lighten() {
        ReliefBuilder b = Check.relief("panel 4 1;steps 4 glass 50 base 0;row 0 100 200 255;");
        Check.due("53: heights", "4 1 0 0", () -> Check.picture(b));
        Check.due("53: lighter", 1, () -> b.lighten(60));
        Check.due("53: tones", "60 160 255 255", () -> Check.tones(b));
        Check.due("53: heights", "2 1 0 0", () -> Check.picture(b));
        Check.due("53: darker", 4, () -> b.lighten(-155));
        Check.due("53: tones", "0 5 100 100", () -> Check.tones(b));
        Check.due("53: heights", "4 4 1 1", () -> Check.picture(b));
        b.setHeight(0, 0, 1);
        Check.due("53: by 0 what was built goes", 1, () -> b.lighten(0));
        Check.due("53: tones", "0 5 100 100", () -> Check.tones(b));
        Check.due("53: all white", 4, () -> b.lighten(255));
        Check.due("53: tones", "255 255 255 255", () -> Check.tones(b));
        Check.due("53: all black", 4, () -> b.lighten(-255));
        Check.due("53: tones", "0 0 0 0", () -> Check.tones(b));
        Check.still("53: wrong calls", b, () -> {
            Check.argument("53: 256", () -> b.lighten(256));
            Check.argument("53: -256", () -> b.lighten(-256));
            Check.argument("53: least", () -> b.lighten(Integer.MIN_VALUE));
        });
    }

    private static void mirror() {
        ReliefBuilder b = Check.relief("panel 3 2;row 0 100 255;row 7 8 7;");
        b.setHeight(2, 1, 2);
        String before = Check.picture(b);
        Check.due("54: heights", "8 8 2 / 8 4 1", () -> before);
        Check.due("54: changed", 4, b::mirror);
        Check.due("54: heights", "2 8 8 / 1 4 8", () -> Check.picture(b));
        Check.due("54: tones", "7 8 7 / 255 100 0", () -> Check.tones(b));
        Check.due("54: there and back", 4, b::mirror);
        Check.due("54: there and back", before, () -> Check.picture(b));
        ReliefBuilder even = Check.relief("panel 4 1;row 1 2 3 4;");
        Check.due("54: no height changes", 0, even::mirror);
        Check.due("54: tones do", "4 3 2 1", () -> Check.tones(even));
        Check.due("54: which can be undone", 0, even::undo);
        Check.due("54: tones", "1 2 3 4", () -> Check.tones(even));
        Check.due("54: one column", 0, () -> Check.heights("", "1 / 5 / 3").mirror());
    }
}
