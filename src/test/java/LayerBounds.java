/** Section 5 and promises 36 to 46: layers. */
final class LayerBounds {
    private static final String STEPS = "steps 5 glass 80 base 0;";

    private LayerBounds() {
    }

    private static ReliefBuilder of(String picture) {
        return Check.heights(STEPS, picture);
    }

    private static ReliefBuilder high(int height) {
        ReliefBuilder b = Check.relief("panel 16 12;steps 20 glass 80 base 0;");
        b.fill(0, 0, 16, 12, height);
        return b;
    }

    private static ReliefBuilder chess() {
        ReliefBuilder b = high(0);
        for (int y = 0; y < 12; y++) {
            for (int x = y % 2; x < 16; x += 2) {
                b.setHeight(x, y, 1);
            }
        }
        return b;
    }

    /** All rectangles of a layer, as x, lowest row, width and number of rows. */
    private static String rectangles(ReliefBuilder b, int layer) {
        StringBuilder text = new StringBuilder();
        for (int i = 0; i < b.rectangles(layer); i++) {
            text.append(i > 0 ? ", " : "");
            for (int what = 0; what < 4; what++) {
                text.append(what > 0 ? " " : "").append(b.rectangle(layer, i, what));
            }
        }
        return text.toString();
    }

    // ---- section 5

    @Sentence(of = "section 5", says = "Layer d (1 to the greatest height) has all cells of at least the height d.")
    static void layers() {
        ReliefBuilder b = of("0 1 2 3 4 5");
        int[] want = {5, 4, 3, 2, 1};
        for (int d = 1; d <= 5; d++) {
            int layer = d;
            Check.due("layer " + d, want[d - 1], () -> b.layerCells(layer));
        }
        Check.argument("no layer 0", () -> b.layerCells(0));
        Check.argument("no layer 6", () -> b.layerCells(6));
        ReliefBuilder one = Check.relief("panel 1 1;steps 1 glass 80 base 1;");
        Check.due("one layer alone", 1, () -> one.layerCells(1));
        Check.argument("no layer 2", () -> one.layerCells(2));
    }

    @Sentence(of = "section 5", says = "Its runs are the maximal runs of its cells in rows.")
    static void maximalRuns() {
        Check.due("a whole row", 1, () -> of("1 1 1 1").runs(1));
        Check.due("one cell", 1, () -> of("1").runs(1));
        Check.due("other heights do not end a run", 1, () -> of("1 5 2 3").runs(1));
        Check.due("a gap of one", 2, () -> of("1 0 1 1").runs(1));
        Check.due("at both ends", 2, () -> of("1 0 0 1").runs(1));
        Check.due("the end of a row and the begin of the next one", 2, () -> of("1 0 / 0 1").runs(1));
        Check.due("not in columns", 2, () -> of("1 / 1").runs(1));
    }

    @Sentence(of = "section 5", says = "Runs of consecutive rows that begin and end at the same x form a rectangle")
    static void merged() {
        Check.due("the same", "1 0 2 2", () -> rectangles(of("0 1 1 0 / 0 1 1 0"), 1));
        Check.due("another begin", "1 0 2 1, 0 1 3 1", () -> rectangles(of("1 1 1 0 / 0 1 1 0"), 1));
        Check.due("another end", "1 0 2 1, 1 1 3 1", () -> rectangles(of("0 1 1 1 / 0 1 1 0"), 1));
        Check.due("a row in between", "1 0 2 1, 1 2 2 1", () -> rectangles(of("0 1 1 / 0 0 0 / 0 1 1"), 1));
        Check.due("another run in between", "1 0 1 1, 1 1 2 1, 1 2 1 1",
                () -> rectangles(of("0 1 0 / 0 1 1 / 0 1 0"), 1));
        Check.due("as many as possible", "0 0 1 5", () -> rectangles(of("1 / 2 / 1 / 3 / 1"), 1));
        Check.due("the whole panel", "0 0 16 12", () -> rectangles(high(20), 20));
        Check.due("side by side", "0 0 1 2, 2 0 1 2", () -> rectangles(of("1 0 1 / 1 0 1"), 1));
    }

    @Sentence(of = "section 5", says = "Rectangles are numbered from 0 by their lowest rows, and then by their x.")
    static void numbered() {
        Check.due("by x", "0 0 1 1, 2 0 1 2, 4 0 1 1", () -> rectangles(of("0 0 1 0 0 / 1 0 1 0 1"), 1));
        Check.due("by the lowest row first", "4 0 1 1, 0 1 1 1", () -> rectangles(of("1 0 0 0 0 / 0 0 0 0 1"), 1));
        Check.due("not by the uppermost row", "2 0 1 3, 0 1 1 1", () -> rectangles(of("0 0 1 / 1 0 1 / 0 0 1"), 1));
        ReliefBuilder b = chess();
        Check.due("the first", 0, () -> b.rectangleAt(1, 0, 0));
        Check.due("the last", 95, () -> b.rectangleAt(1, 15, 11));
        Check.due("the last of the first row", 7, () -> b.rectangleAt(1, 14, 0));
        Check.due("the first of the second row", 8, () -> b.rectangleAt(1, 1, 1));
    }

    @Sentence(of = "section 5", says = "Parts of a layer are groups of its cells that are connected by neighbors.")
    static void connected() {
        Check.due("beside", 1, () -> of("1 1").parts(1));
        Check.due("above", 1, () -> of("1 / 1").parts(1));
        Check.due("across a corner", 2, () -> of("1 0 / 0 1").parts(1));
        Check.due("across the other corner", 2, () -> of("0 1 / 1 0").parts(1));
        Check.due("a gap of one", 2, () -> of("1 0 1").parts(1));
        Check.due("by a long way", 1, () -> of("1 0 1 1 1 / 1 0 1 0 1 / 1 1 1 0 1").parts(1));
        Check.due("down behind a turn", 1, () -> of("1 1 1 / 1 0 1 / 1 0 0").parts(1));
        Check.due("to the left behind a turn", 1, () -> of("1 1 1 / 0 0 1 / 0 0 1").parts(1));
        Check.due("round two turns", 1, () -> of("1 1 1 / 1 0 0 / 1 1 1 / 0 0 1 / 1 1 1").parts(1));
    }

    @Sentence(of = "section 5",
            says = "(Neighbors of a cell are, here and everywhere, those on its left and on its right")
    static void neighbors() {
        Check.due("not the end of the row below", 2, () -> of("1 0 0 / 0 0 1").parts(1));
        Check.due("not the other end of its row", 2, () -> of("1 0 1").parts(1));
        ReliefBuilder wide = high(0);
        wide.setHeight(15, 4, 1);
        wide.setHeight(0, 5, 1);
        Check.due("not the end of the row below of 16", 2, () -> wide.parts(1));
        Check.due("parts", 5, () -> of("1 0 1 / 0 1 0 / 1 0 1").parts(1));
        Check.due("hollows", 1, () -> of("0 1 0 / 1 0 1 / 0 1 0").hollows(1));
        Check.due("the outline", 8, () -> of("1 0 / 0 1").outline(1));
        Check.due("the steepest step", 1, () -> of("1 2 / 0 1").steepest());
    }

    // ---- promises 36 to 38

    @Sentence(of = "promise 36", says = "Returns the number of cells of a layer.")
    static void layerCells() {
        Check.due("none", 0, () -> high(0).layerCells(1));
        Check.due("all", 192, () -> high(20).layerCells(20));
        Check.due("none above them", 0, () -> high(19).layerCells(20));
        Check.due("of that height", 192, () -> high(19).layerCells(19));
        ReliefBuilder b = high(0);
        b.setHeight(15, 11, 1);
        b.setHeight(0, 0, 2);
        Check.due("the first and the last cell", 2, () -> b.layerCells(1));
    }

    @Sentence(of = "promise 37", says = "Returns the number of runs of a layer.")
    static void runs() {
        Check.due("none", 0, () -> high(0).runs(1));
        Check.due("one a row", 12, () -> high(20).runs(20));
        Check.due("as many as there can be", 96, () -> chess().runs(1));
        ReliefBuilder b = high(0);
        b.setHeight(15, 11, 1);
        Check.due("the last cell", 1, () -> b.runs(1));
    }

    @Sentence(of = "promise 38", says = "Returns the number of rectangles of a layer.")
    static void countOfRectangles() {
        Check.due("none", 0, () -> high(0).rectangles(1));
        Check.due("one", 1, () -> high(20).rectangles(20));
        Check.due("as many as there can be", 96, () -> chess().rectangles(1));
        ReliefBuilder b = high(0);
        b.setHeight(15, 11, 1);
        Check.due("the last cell", 1, () -> b.rectangles(1));
    }

    // ---- promises 39 to 42

    @Sentence(of = "promise 39", says = "i: number of a rectangle")
    static void numbers() {
        ReliefBuilder b = of("1 0 2 / 0 0 0 / 2 0 1");
        Check.due("0", 0, () -> b.rectangle(1, 0, 1));
        Check.due("3, the last", 2, () -> b.rectangle(1, 3, 1));
        Check.index("4", () -> b.rectangle(1, 4, 1));
        Check.index("-1", () -> b.rectangle(1, -1, 1));
        Check.due("1, the last of layer 2", 2, () -> b.rectangle(2, 1, 0));
        Check.index("2 of layer 2", () -> b.rectangle(2, 2, 0));
        Check.due("95 of a chess board", 11, () -> chess().rectangle(1, 95, 1));
        Check.index("96 of a chess board", () -> chess().rectangle(1, 96, 1));
    }

    @Sentence(of = "promise 39", says = "what: 0 its x, 1 its lowest row, 2 its width, 3 its number of rows")
    static void sides() {
        Check.due("the least", "0 0 1 1", () -> rectangles(of("0 0 / 1 0"), 1));
        Check.due("the greatest", "0 0 16 12", () -> rectangles(high(1), 1));
        ReliefBuilder last = high(0);
        last.setHeight(15, 11, 1);
        Check.due("the last cell", "15 11 1 1", () -> rectangles(last, 1));
        ReliefBuilder b = of("0 0 0 0 / 0 2 2 2 / 0 2 2 2");
        int[] want = {1, 0, 3, 2};
        for (int what = 0; what < 4; what++) {
            int number = what;
            Check.due("what " + what, want[what], () -> b.rectangle(2, 0, number));
        }
    }

    @Sentence(of = "promise 39", says = "Throws IllegalArgumentException also if what is out of range")
    static void wrongWhat() {
        Whole.argument("-1", b -> b.rectangle(1, 0, -1));
        Whole.argument("4", b -> b.rectangle(1, 0, 4));
        Whole.argument("the least int", b -> b.rectangle(1, 0, Integer.MIN_VALUE));
        Whole.argument("the greatest int", b -> b.rectangle(1, 0, Integer.MAX_VALUE));
        Whole.argument("layer 0", b -> b.rectangle(0, 0, 0));
        Whole.argument("layer 10 of 9", b -> b.rectangle(10, 0, 0));
        Whole.still("0 is in range", 0, b -> b.rectangle(1, 0, 0));
        Whole.still("3 is in range", 2, b -> b.rectangle(1, 0, 3));
    }

    @Sentence(of = "promise 39", says = "Throws IndexOutOfBoundsException if the layer has no such rectangle")
    static void noRectangle() {
        Whole.still("0 is there", 0, b -> b.rectangle(1, 0, 1));
        Whole.index("1 of one", b -> b.rectangle(1, 1, 0));
        Whole.index("-1", b -> b.rectangle(1, -1, 0));
        Whole.index("the least int", b -> b.rectangle(1, Integer.MIN_VALUE, 0));
        Whole.index("the greatest int", b -> b.rectangle(1, Integer.MAX_VALUE, 3));
        Check.index("0 of an empty layer", () -> of("1 1").rectangle(2, 0, 0));
    }

    @Sentence(of = "promise 40", says = "NONE if the cell is not in the layer")
    static void rectangleAt() {
        ReliefBuilder b = of("0 1 1 5 / 2 1 0 5 / 2 0 1 1");
        Check.due("of layer 1", "-1 4 4 4 / 2 2 -1 3 / 0 -1 1 1",
                () -> Check.rows(b, (x, y) -> b.rectangleAt(1, x, y)));
        Check.due("of layer 2", "-1 -1 -1 1 / 0 -1 -1 1 / 0 -1 -1 -1",
                () -> Check.rows(b, (x, y) -> b.rectangleAt(2, x, y)));
        Check.due("of layer 5", 0, () -> b.rectangleAt(5, 3, 2));
        Check.due("just below it", -1, () -> b.rectangleAt(5, 2, 2));
        Check.due("of an empty layer", -1, () -> of("4 4").rectangleAt(5, 1, 0));
        Check.due("of a full one", 0, () -> high(20).rectangleAt(20, 15, 11));
    }

    @Sentence(of = "promise 41", says = "the most cells, the lowest number of several; NONE if the layer is empty")
    static void largest() {
        Check.due("empty", -1, () -> of("4 4").largest(5));
        Check.due("one", 0, () -> of("4 5").largest(5));
        Check.due("the first of two", 0, () -> of("1 1 0 1 1").largest(1));
        Check.due("the first of a flat and a high one", 0, () -> of("0 0 1 / 0 0 1 / 1 1 0").largest(1));
        Check.due("one cell more", 1, () -> of("1 1 0 1 1 1").largest(1));
        Check.due("one cell less", 0, () -> of("1 1 1 0 1 1").largest(1));
        Check.due("cells, not columns", 1, () -> of("0 0 0 1 / 0 0 0 1 / 0 0 0 1 / 1 1 0 1").largest(1));
        Check.due("cells, not columns and rows", 1,
                () -> of("1 0 1 1 1 / 1 0 1 1 1 / 1 0 1 1 1 / 1 0 0 0 0 / 1 0 0 0 0 / 1 0 0 0 0").largest(1));
        Check.due("cells, not rows", 1, () -> of("1 0 0 0 0 / 1 0 1 1 1").largest(1));
        Check.due("all of a chess board", 0, () -> chess().largest(1));
        ReliefBuilder last = chess();
        last.setHeight(14, 11, 1);
        Check.due("the last of a chess board", 94, () -> last.largest(1));
    }

    @Sentence(of = "promise 42", says = "the shortest run of a layer; 0 if the layer is empty")
    static void shortest() {
        Check.due("empty", 0, () -> of("4 4").shortest(5));
        Check.due("16", 16, () -> high(1).shortest(1));
        Check.due("one of 15", 15, () -> {
            ReliefBuilder b = high(1);
            b.setHeight(15, 11, 0);
            return b.shortest(1);
        });
        Check.due("one cell", 1, () -> of("1 1 0 1").shortest(1));
        Check.due("in the first row", 2, () -> of("1 1 1 / 0 1 1").shortest(1));
        Check.due("in the last row", 2, () -> of("1 1 0 / 1 1 1").shortest(1));
    }

    // ---- promises 43 to 46

    @Sentence(of = "promise 43", says = "Returns the number of parts of a layer.")
    static void parts() {
        Check.due("none", 0, () -> high(0).parts(1));
        Check.due("one", 1, () -> high(20).parts(20));
        Check.due("as many as there can be", 96, () -> chess().parts(1));
        Check.due("of another layer", 2, () -> of("2 1 2").parts(2));
        Check.due("of the lower one", 1, () -> of("2 1 2").parts(1));
        ReliefBuilder twice = of("1 0 / 1 1");
        Check.due("asked once", 1, () -> twice.parts(1));
        Check.due("asked again", 1, () -> twice.parts(1));
    }

    @Sentence(of = "promise 44", says = "at which there is no cell of the layer (also at the edge of the panel)")
    static void outline() {
        Check.due("none", 0, () -> high(0).outline(1));
        Check.due("the edge alone", 56, () -> high(20).outline(20));
        Check.due("one cell", 4, () -> of("1").outline(1));
        Check.due("one cell among others", 4, () -> of("0 0 0 / 0 1 0 / 0 0 0").outline(1));
        Check.due("one cell in a corner", 4, () -> of("0 1 / 0 0").outline(1));
        Check.due("two cells", 6, () -> of("1 1").outline(1));
        Check.due("round a hollow, too", 16, () -> of("1 1 1 / 1 0 1 / 1 1 1").outline(1));
        Check.due("as long as it can be", 384, () -> chess().outline(1));
    }

    @Sentence(of = "promise 45", says = "cells that are not in the layer, none of which is at the edge of the panel")
    static void hollows() {
        Check.due("a full layer", 0, () -> high(20).hollows(20));
        Check.due("an empty layer", 0, () -> high(0).hollows(1));
        Check.due("one", 1, () -> of("1 1 1 / 1 0 1 / 1 1 1").hollows(1));
        Check.due("at the left", 0, () -> of("1 1 1 / 0 1 1 / 1 1 1").hollows(1));
        Check.due("at the right", 0, () -> of("1 1 1 / 1 1 0 / 1 1 1").hollows(1));
        Check.due("below", 0, () -> of("1 1 1 / 1 1 1 / 1 0 1").hollows(1));
        Check.due("above", 0, () -> of("1 0 1 / 1 1 1 / 1 1 1").hollows(1));
        Check.due("one cell of it is at the edge", 0, () -> of("1 1 1 1 / 1 0 0 0 / 1 1 1 1").hollows(1));
        Check.due("the edge is met last", 0, () -> of("1 0 1 1 / 1 0 0 1 / 1 1 0 1 / 1 1 1 1").hollows(1));
        Check.due("a corner does not open it", 1, () -> of("0 1 1 / 1 0 1 / 1 1 0").hollows(1));
        Check.due("two across a corner", 2, () -> of("1 1 1 1 / 1 0 1 1 / 1 1 0 1 / 1 1 1 1").hollows(1));
        ReliefBuilder twice = of("0 1 1 1 / 1 1 0 1 / 0 1 1 1");
        Check.due("asked once", 1, () -> twice.hollows(1));
        Check.due("asked again", 1, () -> twice.hollows(1));
        Check.due("two side by side are one", 1, () -> of("1 1 1 1 / 1 0 0 1 / 1 1 1 1").hollows(1));
        Check.due("too narrow for one", 0, () -> of("1 1 1 1 / 1 0 0 1").hollows(1));
        Check.due("as many as there can be", 70, () -> chess().hollows(1));
        Check.due("an island in it", 1,
                () -> of("1 1 1 1 1 / 1 0 0 0 1 / 1 0 1 0 1 / 1 0 0 0 1 / 1 1 1 1 1").hollows(1));
    }

    @Sentence(of = "promise 46", says = "Returns the number of rectangles of all layers together.")
    static void allRectangles() {
        Check.due("none", 0, () -> high(0).allRectangles());
        Check.due("one a layer", 20, () -> high(20).allRectangles());
        Check.due("the lowest layer alone", 1, () -> of("0 1").allRectangles());
        Check.due("the greatest height, too", 5, () -> of("0 5").allRectangles());
        Check.due("more of the upper layers", 1 + 2 + 2, () -> of("3 1 3").allRectangles());
    }
}
