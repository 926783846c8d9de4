/** Promises 36 to 46: layers. */
public final class LayerTest {
    private static final String STEPS = "steps 5 glass 80 base 0;";

    public static void main(String[] args) {
        counts();
        emptyAndFull();
        numbers();
        largest();
        shortest();
        parts();
        hollows();
        wrongLayers();
        wrongRectangles();
        wide();
        Check.end("LayerTest");
    }

    private static String rectangle(ReliefBuilder b, int layer, int i) {
        return b.rectangle(layer, i, 0) + " " + b.rectangle(layer, i, 1) + " " + b.rectangle(layer, i, 2) + " "
                + b.rectangle(layer, i, 3);
    }

    private static ReliefBuilder letters() {
        return Check.heights(STEPS, "1 1 0 2 2 / 1 1 0 2 2 / 0 1 1 0 3 / 5 1 1 0 3");
    }

    private static void counts() {
        ReliefBuilder b = letters();
        Check.due("36: layer 1", 15, () -> b.layerCells(1));
        Check.due("36: layer 2", 7, () -> b.layerCells(2));
        Check.due("36: layer 5", 1, () -> b.layerCells(5));
        Check.due("37: layer 1", 8, () -> b.runs(1));
        Check.due("37: layer 2", 5, () -> b.runs(2));
        Check.due("37: layer 4", 1, () -> b.runs(4));
        Check.due("38: layer 1", 5, () -> b.rectangles(1));
        Check.due("38: layer 2", 3, () -> b.rectangles(2));
        Check.due("38: layer 3", 2, () -> b.rectangles(3));
        Check.due("44: layer 1", 28, () -> b.outline(1));
        Check.due("44: layer 2", 16, () -> b.outline(2));
        Check.due("46: all", 5 + 3 + 2 + 1 + 1, b::allRectangles);
    }

    private static void emptyAndFull() {
        ReliefBuilder b = Check.heights(STEPS, "2 2 2 / 2 2 2");
        Check.due("36: full", 6, () -> b.layerCells(2));
        Check.due("37: full", 2, () -> b.runs(2));
        Check.due("38: full", 1, () -> b.rectangles(2));
        Check.due("39: full", "0 0 3 2", () -> rectangle(b, 2, 0));
        Check.due("43: full", 1, () -> b.parts(2));
        Check.due("44: full", 10, () -> b.outline(2));
        Check.due("45: full", 0, () -> b.hollows(2));
        Check.due("36: empty", 0, () -> b.layerCells(3));
        Check.due("37: empty", 0, () -> b.runs(3));
        Check.due("38: empty", 0, () -> b.rectangles(3));
        Check.index("39: empty", () -> b.rectangle(3, 0, 0));
        Check.due("40: empty", -1, () -> b.rectangleAt(3, 1, 1));
        Check.due("41: empty", -1, () -> b.largest(3));
        Check.due("42: empty", 0, () -> b.shortest(3));
        Check.due("43: empty", 0, () -> b.parts(3));
        Check.due("44: empty", 0, () -> b.outline(3));
        Check.due("45: empty", 0, () -> b.hollows(3));
        Check.due("46: two layers", 2, b::allRectangles);
    }

    private static void numbers() {
        ReliefBuilder b = letters();
        String[] want = {"0 0 3 1", "4 0 1 2", "1 1 2 1", "0 2 2 2", "3 2 2 2"};
        for (int i = 0; i < want.length; i++) {
            int number = i;
            Check.due("39: " + i, want[i], () -> rectangle(b, 1, number));
        }
        Check.due("40: cells", "3 3 -1 4 4 / 3 3 -1 4 4 / -1 2 2 -1 1 / 0 0 0 -1 1",
                () -> Check.rows(b, (x, y) -> b.rectangleAt(1, x, y)));
        Check.due("40: cells of layer 2", "-1 -1 -1 2 2 / -1 -1 -1 2 2 / -1 -1 -1 -1 1 / 0 -1 -1 -1 1",
                () -> Check.rows(b, (x, y) -> b.rectangleAt(2, x, y)));
        ReliefBuilder gap = Check.heights(STEPS, "1 1 0 / 0 0 0 / 1 1 0 / 1 1 0");
        Check.due("38: a row between them", 2, () -> gap.rectangles(1));
        Check.due("39: a row between them", "0 3 2 1", () -> rectangle(gap, 1, 1));
        ReliefBuilder begin = Check.heights(STEPS, "1 1 1 0 / 0 1 1 0 / 0 1 1 1");
        Check.due("38: another begin or end", 3, () -> begin.rectangles(1));
    }

    private static void largest() {
        Check.due("41: the last", 3, () -> letters().largest(1));
        Check.due("41: the first of several", 0, () -> Check.heights(STEPS, "1 1 0 1 1").largest(1));
        Check.due("41: a high one", 1, () -> Check.heights(STEPS, "0 0 1 / 0 0 1 / 0 0 1 / 1 1 0").largest(1));
        Check.due("41: one cell each", 0, () -> Check.heights(STEPS, "0 1 0 / 1 0 1").largest(1));
        Check.due("41: cells count", 1, () -> Check.heights(STEPS, "1 1 1 1 / 0 0 0 1 / 0 0 0 1 / 0 0 0 1").largest(1));
    }

    private static void shortest() {
        Check.due("42: one", 1, () -> letters().shortest(1));
        Check.due("42: in the middle", 2, () -> Check.heights(STEPS, "1 1 1 0 / 0 1 1 0 / 1 1 1 1").shortest(1));
        Check.due("42: at the right end", 1, () -> Check.heights(STEPS, "1 1 0 1 / 1 1 1 1").shortest(1));
        Check.due("42: the first", 2, () -> Check.heights(STEPS, "1 1 1 1 / 1 1 0 0").shortest(1));
    }

    private static void parts() {
        Check.due("43: two", 2, () -> letters().parts(1));
        Check.due("43: not across corners", 5, () -> Check.heights(STEPS, "1 0 1 / 0 1 0 / 1 0 1").parts(1));
        Check.due("43: a hook", 1, () -> Check.heights(STEPS, "1 1 1 / 1 0 1 / 0 0 1 / 1 1 1").parts(1));
        Check.due("43: a snake", 1,
                () -> Check.heights(STEPS, "1 1 1 1 / 1 0 0 0 / 1 1 1 1 / 0 0 0 1 / 1 1 1 1").parts(1));
        Check.due("43: not round the edge", 2, () -> Check.heights(STEPS, "0 0 1 / 1 0 0").parts(1));
        ReliefBuilder twice = letters();
        Check.due("43: first", 2, () -> twice.parts(2));
        Check.due("43: again", 2, () -> twice.parts(2));
    }

    private static void hollows() {
        Check.due("45: one", 1, () -> Check.heights(STEPS, "1 1 1 / 1 0 1 / 1 1 1").hollows(1));
        Check.due("45: the corners are open", 1, () -> Check.heights(STEPS, "0 1 0 / 1 0 1 / 0 1 0").hollows(1));
        Check.due("45: open", 0, () -> Check.heights(STEPS, "1 1 1 / 1 0 0 / 1 1 1").hollows(1));
        Check.due("45: at the edge", 0, () -> Check.heights(STEPS, "1 0 1 / 1 1 1 / 1 0 1").hollows(1));
        Check.due("45: at the right edge", 0, () -> Check.heights(STEPS, "1 1 1 / 1 1 0 / 1 1 1").hollows(1));
        Check.due("45: at the left edge", 0, () -> Check.heights(STEPS, "1 1 1 / 0 1 1 / 1 1 1").hollows(1));
        ReliefBuilder b = Check.heights(STEPS, "1 1 1 1 1 / 1 0 1 0 1 / 1 0 0 1 1 / 1 1 1 1 1");
        Check.due("45: two", 2, () -> b.hollows(1));
        Check.due("45: none of layer 2", 0, () -> b.hollows(2));
        Check.due("43: one part round them", 1, () -> b.parts(1));
    }

    private static void wrongLayers() {
        ReliefBuilder b = letters();
        for (int layer : new int[] {0, 6, -1, Integer.MIN_VALUE, Integer.MAX_VALUE}) {
            Check.argument("36: " + layer, () -> b.layerCells(layer));
            Check.argument("37: " + layer, () -> b.runs(layer));
            Check.argument("38: " + layer, () -> b.rectangles(layer));
            Check.argument("39: " + layer, () -> b.rectangle(layer, 0, 0));
            Check.argument("40: " + layer, () -> b.rectangleAt(layer, 0, 0));
            Check.argument("41: " + layer, () -> b.largest(layer));
            Check.argument("42: " + layer, () -> b.shortest(layer));
            Check.argument("43: " + layer, () -> b.parts(layer));
            Check.argument("44: " + layer, () -> b.outline(layer));
            Check.argument("45: " + layer, () -> b.hollows(layer));
        }
    }

    private static void wrongRectangles() {
        ReliefBuilder b = letters();
        Check.argument("39: what 4", () -> b.rectangle(1, 0, 4));
        Check.argument("39: what -1", () -> b.rectangle(1, 0, -1));
        Check.argument("39: what ahead of the number", () -> b.rectangle(1, 9, 4));
        Check.argument("39: the layer ahead of the number", () -> b.rectangle(0, 9, 0));
        Check.index("39: 5", () -> b.rectangle(1, 5, 0));
        Check.index("39: -1", () -> b.rectangle(1, -1, 3));
        Check.index("39: least", () -> b.rectangle(1, Integer.MIN_VALUE, 3));
        Check.index("39: greatest", () -> b.rectangle(1, Integer.MAX_VALUE, 3));
        Check.index("40: x", () -> b.rectangleAt(1, 5, 0));
        Check.index("40: y", () -> b.rectangleAt(1, 0, 4));
        Check.index("40: the cell ahead of the layer", () -> b.rectangleAt(0, -1, 0));
    }

    private static void wide() {
        ReliefBuilder b = Check.relief("panel 16 12;steps 20 glass 80 base 0;row 0 0 0 0 0 0 0 0 0 0 0 0 0 0 0 0;");
        b.fill(0, 0, 16, 12, 20);
        Check.due("36: all", 192, () -> b.layerCells(20));
        Check.due("39: all", "0 0 16 12", () -> rectangle(b, 20, 0));
        Check.due("40: all", 0, () -> b.rectangleAt(20, 15, 11));
        Check.due("44: all", 56, () -> b.outline(20));
        Check.due("43: all", 1, () -> b.parts(20));
        Check.due("46: all", 20, b::allRectangles);
        for (int y = 0; y < 12; y++) {
            for (int x = y % 2; x < 16; x += 2) {
                b.setHeight(x, y, 0);
            }
        }
        Check.due("38: a chess board", 96, () -> b.rectangles(1));
        Check.due("39: its last", "14 11 1 1", () -> rectangle(b, 1, 95));
        Check.due("40: its last", 95, () -> b.rectangleAt(1, 14, 11));
        Check.due("43: its parts", 96, () -> b.parts(1));
        Check.due("45: its hollows", 70, () -> b.hollows(1));
        Check.due("46: its layers", 1920, b::allRectangles);
    }
}
