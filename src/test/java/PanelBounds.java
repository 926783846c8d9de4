/** Promises 9 to 13: cells and counts. */
final class PanelBounds {
    private PanelBounds() {
    }

    @Sentence(of = "promise 9", says = "Returns the tone of a cell.")
    static void tones() {
        ReliefBuilder b = Check.relief("panel 16 12;row 0 1 2 3 4 5 6 7 8 9 10 11 12 13 14 255;");
        Check.due("the least", 0, () -> b.tone(0, 0));
        Check.due("the greatest", 255, () -> b.tone(15, 0));
        b.setTone(15, 11, 77);
        b.setTone(0, 11, 78);
        Check.due("the last cell", 77, () -> b.tone(15, 11));
        Check.due("the first one of the uppermost row", 78, () -> b.tone(0, 11));
        Check.index("no cell behind the last one", () -> b.tone(16, 11));
        Check.index("no cell above the last one", () -> b.tone(15, 12));
    }

    @Sentence(of = "promise 10", says = "Returns the height of a cell.")
    static void heights() {
        ReliefBuilder b = Check.relief("panel 16 12;steps 20 glass 80 base 0;");
        Check.due("the least", 0, () -> b.height(0, 0));
        b.setHeight(15, 11, 20);
        b.setHeight(0, 11, 19);
        Check.due("the greatest, in the last cell", 20, () -> b.height(15, 11));
        Check.due("the first one of the uppermost row", 19, () -> b.height(0, 11));
        Check.due("the last one of the row below", 0, () -> b.height(15, 10));
        Check.index("no cell behind the last one", () -> b.height(16, 11));
        Check.index("no cell above the last one", () -> b.height(15, 12));
    }

    @Sentence(of = "promise 11", says = "Returns the sum of all heights.")
    static void volume() {
        Check.due("nothing", 0, () -> Check.relief("panel 16 12;steps 20 glass 80 base 0;").volume());
        Check.due("the most", 3840, () -> Check.relief("panel 16 12;steps 20 glass 80 base 20;").volume());
        Check.due("one cell", 7, () -> Check.heights("", "7").volume());
        Check.due("none of an earlier panel", 1, () -> {
            ReliefBuilder b = Check.relief("panel 16 12;steps 20 glass 80 base 20;");
            Check.read(b, "panel 1 1;");
            return b.volume();
        });
        ReliefBuilder corner = Check.relief("panel 16 12;steps 20 glass 80 base 0;");
        corner.setHeight(15, 11, 20);
        corner.setHeight(0, 0, 3);
        Check.due("the first and the last cell", 23, corner::volume);
    }

    @Sentence(of = "promise 12", says = "height: 0 to the greatest height")
    static void countedHeights() {
        ReliefBuilder b = Check.heights("steps 9 glass 80 base 0;", "0 9 9 / 0 0 8");
        Check.due("0", 3, () -> b.cellsOf(0));
        Check.due("8", 1, () -> b.cellsOf(8));
        Check.due("the greatest", 2, () -> b.cellsOf(9));
        Check.argument("behind it", () -> b.cellsOf(10));
        ReliefBuilder based = Check.relief("steps 9 glass 80 base 4;");
        Check.due("below the base", 0, () -> based.cellsOf(0));
        Check.due("just below the base", 0, () -> based.cellsOf(3));
        Check.due("the base", 16, () -> based.cellsOf(4));
    }

    @Sentence(of = "promise 12", says = "Returns the number of cells with this height.")
    static void count() {
        ReliefBuilder b = Check.relief("panel 16 12;steps 20 glass 80 base 20;");
        Check.due("all", 192, () -> b.cellsOf(20));
        Check.due("none", 0, () -> b.cellsOf(19));
        Check.read(b, "panel 2 1;steps 20 glass 80 base 20;");
        Check.due("those of the present panel alone", 2, () -> b.cellsOf(20));
        Check.due("one of two", 1, () -> Check.heights("", "3 4").cellsOf(4));
    }

    @Sentence(of = "promise 12", says = "Throws IllegalArgumentException if height is out of range")
    static void wrongHeight() {
        ReliefBuilder b = Check.relief("panel 1 1;steps 20 glass 80 base 0;");
        Check.argument("-1", () -> b.cellsOf(-1));
        Check.due("20", 0, () -> b.cellsOf(20));
        Check.argument("21", () -> b.cellsOf(21));
        Check.argument("the least int", () -> b.cellsOf(Integer.MIN_VALUE));
        Check.argument("the greatest int", () -> b.cellsOf(Integer.MAX_VALUE));
        ReliefBuilder low = Check.relief("steps 1 glass 80 base 0;");
        Check.due("1", 0, () -> low.cellsOf(1));
        Check.argument("2", () -> low.cellsOf(2));
    }

    @Sentence(of = "promise 13", says = "the heights of two neighboring cells; 0 if there are no two")
    static void steepest() {
        Check.due("no two", 0, () -> Check.heights("steps 20 glass 80 base 0;", "20").steepest());
        Check.due("two side by side", 20, () -> Check.heights("steps 20 glass 80 base 0;", "20 0").steepest());
        Check.due("two side by side", 20, () -> Check.heights("steps 20 glass 80 base 0;", "0 20").steepest());
        Check.due("one on the other", 20, () -> Check.heights("steps 20 glass 80 base 0;", "20 / 0").steepest());
        Check.due("one on the other", 20, () -> Check.heights("steps 20 glass 80 base 0;", "0 / 20").steepest());
        Check.due("as high", 0, () -> Check.heights("", "5 5 / 5 5").steepest());
        Check.due("not across a corner", 1, () -> Check.heights("", "2 3 / 1 2").steepest());
        Check.due("not from an end to the next row", 2,
                () -> Check.heights("steps 20 glass 80 base 0;", "9 7 5 3 / 7 5 3 1").steepest());
        ReliefBuilder wide = Check.relief("panel 16 12;steps 20 glass 80 base 0;");
        wide.fill(0, 0, 16, 12, 10);
        wide.setHeight(15, 11, 13);
        Check.due("the last cell", 3, wide::steepest);
        wide.setHeight(0, 0, 3);
        Check.due("the first cell", 7, wide::steepest);
    }
}
