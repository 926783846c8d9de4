/** Sections 3 and 4 and promises 25 to 35: walls and supports. */
final class WallBounds {
    private static final String STEPS = "steps 20 glass 80 base 0;";

    private WallBounds() {
    }

    private static String thin(String settings, String picture) {
        ReliefBuilder b = Check.heights(settings, picture);
        return Check.rows(b, (x, y) -> b.isThin(x, y) ? 1 : 0);
    }

    private static ReliefBuilder high(String settings, int height) {
        ReliefBuilder b = Check.relief("panel 16 12;" + STEPS + settings);
        b.fill(0, 0, 16, 12, height);
        return b;
    }

    // ---- section 3

    @Sentence(of = "section 3", says = "A cell that is higher than the base is thin if the run of cells of its row")
    static void higherThanBase() {
        Check.due("the base", "0 0 0", () -> thin("steps 9 glass 80 base 4;", "4 4 4"));
        Check.due("one more", "0 1 0", () -> thin("steps 9 glass 80 base 4;", "4 5 4"));
        Check.due("base 0", "0 1 0", () -> thin(STEPS, "0 1 0"));
        Check.due("the base alone", "0", () -> thin("steps 9 glass 80 base 4;", "4"));
        Check.due("one cell alone", "1", () -> thin("steps 9 glass 80 base 4;", "9"));
        Check.due("base and greatest are the same", "0", () -> thin("steps 9 glass 80 base 9;", "9"));
    }

    @Sentence(of = "section 3", says = "that has it, as far as these are at least as high as it")
    static void asHigh() {
        Check.due("as high", "0 0 0", () -> thin(STEPS, "5 5 0"));
        Check.due("one less", "1 0 0", () -> thin(STEPS, "5 4 4"));
        Check.due("one more", "0 1 0", () -> thin(STEPS, "5 6 0"));
        Check.due("as high in the column", "0 / 0 / 0", () -> thin(STEPS, "0 / 5 / 5"));
        Check.due("one less in the column", "0 / 0 / 1", () -> thin(STEPS, "4 / 4 / 5"));
        Check.due("one more in the column", "0 / 1 / 0", () -> thin(STEPS, "0 / 6 / 5"));
        Check.due("a gap ends the run", "1 0 1 1 0", () -> thin(STEPS + "wall 3;", "5 0 5 5 0"));
        Check.due("the end of a row is not the next one", "1 0 0 / 0 0 1", () -> thin(STEPS, "5 0 0 / 0 0 5"));
        Check.due("not round the edge", "1 0 0 1", () -> thin(STEPS, "5 0 0 5"));
        Check.due("not across corners", "1 0 / 0 1", () -> thin(STEPS, "5 0 / 0 5"));
    }

    @Sentence(of = "section 3", says = "both have fewer cells than the least width of a wall")
    static void fewerCells() {
        int[][] lengths = {{1, 1, 0}, {2, 1, 1}, {2, 2, 0}, {3, 2, 1}, {3, 3, 0}, {4, 3, 1}, {4, 4, 0}};
        for (int[] c : lengths) {
            String cells = "5 ".repeat(c[1]) + "0";
            String want = (c[2] + " ").repeat(c[1]) + "0";
            Check.due("wall " + c[0] + " row " + cells, want, () -> thin(STEPS + "wall " + c[0] + ";", cells));
            Check.due("wall " + c[0] + " column " + cells, want.replace(" ", " / "),
                    () -> thin(STEPS + "wall " + c[0] + ";", cells.replace(" ", " / ")));
        }
        Check.due("the row alone has fewer", "0 0 / 0 0 / 0 0", () -> thin(STEPS + "wall 3;", "5 0 / 5 0 / 5 0"));
        Check.due("the column alone has fewer", "0 0 0 / 0 0 0", () -> thin(STEPS + "wall 3;", "0 0 0 / 5 5 5"));
        Check.due("both have fewer", "1 1 0 / 1 1 0 / 0 0 0", () -> thin(STEPS + "wall 3;", "5 5 0 / 5 5 0 / 0 0 0"));
        Check.due("cells on both sides count", "1 0 0 1", () -> thin(STEPS + "wall 4;", "6 5 5 7"));
    }

    @Sentence(of = "section 3", says = "A pass lowers all cells that are thin, at the same time, by 1.")
    static void passes() {
        ReliefBuilder b = Check.heights(STEPS, "5 0 7 0 20");
        Check.due("as many as the highest needs", 20, b::repair);
        ReliefBuilder stops = Check.heights("steps 20 glass 80 base 4;", "4 5 4 9 4");
        Check.due("down to the base", 5, stops::repair);
        Check.due("down to the base", "4 4 4 4 4", () -> Check.picture(stops));
        ReliefBuilder beside = Check.heights(STEPS, "7 4 4 9");
        Check.due("down to the neighbors", 5, beside::repair);
        Check.due("down to the neighbors", "4 4 4 4", () -> Check.picture(beside));
        ReliefBuilder both = Check.heights(STEPS + "wall 3;", "6 6 0 / 0 0 0");
        Check.due("two at the same time", 6, both::repair);
    }

    @Sentence(of = "section 3", says = "To repair means to make passes as long as cells are thin.")
    static void repairs() {
        ReliefBuilder none = Check.heights(STEPS, "5 5 / 0 0");
        Check.due("none are thin", 0, none::repair);
        Check.due("nothing changes", "5 5 / 0 0", () -> Check.picture(none));
        ReliefBuilder some = Check.heights(STEPS + "wall 4;", "9 9 9 / 9 9 9 / 9 9 9");
        Check.due("all are thin", 9, some::repair);
        Check.due("none are thin any more", 0, some::thinCells);
        Check.due("none are thin any more", 0, some::repair);
        ReliefBuilder one = Check.heights(STEPS, "5 6 0");
        Check.due("one pass", 1, one::repair);
        Check.due("one pass", "5 5 0", () -> Check.picture(one));
    }

    // ---- section 4

    @Sentence(of = "section 4", says = "A cell that is not in the lowest row stands out by its height less")
    static void standsOut() {
        int[][] cases = {{4, 0}, {5, 0}, {6, 0}, {7, 1}, {8, 2}, {20, 14}, {0, 0}};
        for (int[] c : cases) {
            ReliefBuilder b = Check.heights(STEPS + "slope 2;", c[0] + " / 4");
            Check.due(c[0] + " over 4", c[1], () -> b.overhang(0, 1));
            Check.due("4 in the lowest row", 0, () -> b.overhang(0, 0));
        }
        Check.due("20 in the lowest row", 0, () -> Check.heights(STEPS + "slope 0;", "20").overhang(0, 0));
        Check.due("20 over 0", 20, () -> Check.heights(STEPS + "slope 0;", "20 / 0").overhang(0, 1));
        Check.due("20 over 0, slope 9", 11, () -> Check.heights(STEPS + "slope 9;", "20 / 0").overhang(0, 1));
        Check.due("9 over 0, slope 9", 0, () -> Check.heights(STEPS + "slope 9;", "9 / 0").overhang(0, 1));
        ReliefBuilder beside = Check.heights(STEPS + "slope 0;", "9 0 / 9 0");
        Check.due("not over the one beside it", "0 0 / 0 0", () -> Check.rows(beside, beside::overhang));
    }

    @Sentence(of = "section 4", says = "until a cell of at least the height d, or the plate")
    static void supports() {
        ReliefBuilder b = Check.heights(STEPS + "slope 1;", "9 / 1 / 5 / 6 / 3");
        int[] want = {0, 0, 1, 1, 1, 2, 4, 4, 4};
        for (int d = 1; d <= 9; d++) {
            int unit = d;
            Check.due("unit " + d, want[d - 1], () -> b.supportOf(0, 4, unit));
        }
        ReliefBuilder low = Check.heights(STEPS + "slope 0;", "1 / 0");
        Check.due("down to the plate", 1, () -> low.supportOf(0, 1, 1));
        ReliefBuilder tall = Check.heights(STEPS + "slope 0;", "1" + " / 0".repeat(11));
        Check.due("through eleven rows", 11, () -> tall.supportOf(0, 11, 1));
        ReliefBuilder stop = Check.heights(STEPS + "slope 0;", "4 / 3 / 4");
        Check.due("a cell of height d", 1, () -> stop.supportOf(0, 2, 4));
        ReliefBuilder pass = Check.heights(STEPS + "slope 0;", "4 / 3 / 3");
        Check.due("a cell of one less", 2, () -> pass.supportOf(0, 2, 4));
    }

    // ---- promises 25 to 29

    @Sentence(of = "promise 25", says = "Returns whether a cell is thin.")
    static void isThin() {
        ReliefBuilder b = high("wall 2;", 0);
        b.setHeight(15, 11, 1);
        b.setHeight(0, 11, 20);
        Check.due("the last cell", true, () -> b.isThin(15, 11));
        Check.due("the first one of its row", true, () -> b.isThin(0, 11));
        Check.due("beside it", false, () -> b.isThin(14, 11));
        Check.index("behind it", () -> b.isThin(16, 11));
        Check.index("above it", () -> b.isThin(15, 12));
        Check.due("wall 1", false, () -> Check.heights(STEPS + "wall 1;", "0 9 0").isThin(1, 0));
    }

    @Sentence(of = "promise 26", says = "Returns the number of thin cells.")
    static void thinCells() {
        Check.due("none", 0, () -> high("wall 4;", 20).thinCells());
        Check.due("none is higher than the base", 0, () -> high("wall 4;", 0).thinCells());
        Check.due("all", 9, () -> Check.heights(STEPS + "wall 4;", "3 3 3 / 3 3 3 / 3 3 3").thinCells());
        Check.due("a column of 4", 0,
                () -> Check.heights(STEPS + "wall 4;", "3 3 3 / 3 3 3 / 3 3 3 / 3 3 3").thinCells());
        ReliefBuilder b = high("wall 2;", 0);
        b.setHeight(0, 0, 1);
        b.setHeight(15, 11, 1);
        Check.due("the first and the last cell", 2, b::thinCells);
    }

    @Sentence(of = "promise 27", says = "@return the number of passes by which cells were lowered")
    static void countOfPasses() {
        Check.due("none", 0, () -> high("wall 4;", 20).repair());
        Check.due("one", 1, () -> Check.heights(STEPS, "0 1 0").repair());
        Check.due("twenty", 20, () -> Check.heights(STEPS, "0 20 0").repair());
        Check.due("not one for each cell", 3, () -> Check.heights(STEPS, "3 0 3 0 2").repair());
        ReliefBuilder b = high("wall 2;", 0);
        b.setHeight(15, 11, 4);
        Check.due("the last cell", 4, b::repair);
        Check.due("again", 0, b::repair);
    }

    @Sentence(of = "promise 28", says = "the greatest number of h - limit * d, over all cells (itself, too)")
    static void smooth() {
        ReliefBuilder self = Check.heights(STEPS, "9");
        Check.due("itself alone", 0, () -> self.smooth(1));
        Check.due("itself alone", 9, () -> self.height(0, 0));
        ReliefBuilder wide = high("", 0);
        wide.setHeight(0, 0, 20);
        wide.smooth(1);
        Check.due("0 away", 20, () -> wide.height(0, 0));
        Check.due("15 away in its row", 5, () -> wide.height(15, 0));
        Check.due("11 away in its column", 9, () -> wide.height(0, 11));
        Check.due("19 away", 1, () -> wide.height(15, 4));
        Check.due("20 away", 0, () -> wide.height(15, 5));
        Check.due("26 away", 0, () -> wide.height(15, 11));
        for (int[] from : new int[][] {{0, 0}, {2, 0}, {0, 2}, {2, 2}, {1, 1}, {1, 0}, {0, 1}}) {
            ReliefBuilder b = Check.heights(STEPS, "0 0 0 / 0 0 0 / 0 0 0");
            b.setHeight(from[0], from[1], 9);
            b.smooth(2);
            for (int cell = 0; cell < 9; cell++) {
                int x = cell % 3;
                int y = cell / 3;
                int d = Math.abs(x - from[0]) + Math.abs(y - from[1]);
                Check.due("from " + from[0] + " " + from[1] + " to " + x + " " + y, 9 - 2 * d, () -> b.height(x, y));
            }
        }
        ReliefBuilder ahead = Check.heights(STEPS, "9 0 0 0 5");
        ahead.smooth(3);
        Check.due("heights ahead of the call", "9 6 3 2 5", () -> Check.picture(ahead));
        ReliefBuilder based = Check.heights("steps 9 glass 80 base 4;", "9 4 4");
        based.smooth(3);
        Check.due("never lower than it was", "9 6 4", () -> Check.picture(based));
    }

    @Sentence(of = "promise 28", says = "limit: 1 to 20")
    static void limits() {
        for (int limit = 1; limit <= 20; limit++) {
            int by = limit;
            ReliefBuilder b = Check.heights(STEPS, "20 0");
            Check.due("limit " + by, by == 20 ? 0 : 1, () -> b.smooth(by));
            Check.due("limit " + by, 20 - by, () -> b.height(1, 0));
        }
        Check.argument("0", () -> Check.heights(STEPS, "20 0").smooth(0));
        Check.argument("21", () -> Check.heights(STEPS, "20 0").smooth(21));
    }

    @Sentence(of = "promise 28", says = "Returns the number of cells whose height changed.")
    static void smoothCount() {
        Check.due("none of one height", 0, () -> high("", 7).smooth(1));
        ReliefBuilder all = high("", 0);
        all.fill(0, 0, 16, 1, 20);
        Check.due("all but the lowest row", 176, () -> all.smooth(1));
        Check.due("none any more", 0, () -> all.smooth(1));
        Check.due("one", 1, () -> Check.heights(STEPS, "2 0 0").smooth(1));
    }

    @Sentence(of = "promise 28", says = "Throws IllegalArgumentException if limit is out of range")
    static void wrongLimit() {
        Whole.argument("0", b -> b.smooth(0));
        Whole.argument("21", b -> b.smooth(21));
        Whole.argument("-1", b -> b.smooth(-1));
        Whole.argument("the least int", b -> b.smooth(Integer.MIN_VALUE));
        Whole.argument("the greatest int", b -> b.smooth(Integer.MAX_VALUE));
    }

    @Sentence(of = "promise 29", says = "Returns the volume that repair() would take away (nothing changes).")
    static void repairLoss() {
        Check.due("nothing is thin", 0, () -> high("wall 4;", 20).repairLoss());
        ReliefBuilder one = Check.heights(STEPS, "0 20 0 3");
        Check.due("all of it", 23, one::repairLoss);
        Check.due("nothing changes", "0 20 0 3", () -> Check.picture(one));
        Check.due("down to the base", 5, () -> Check.heights("steps 9 glass 80 base 4;", "4 9 4").repairLoss());
        int loss = Whole.object().repairLoss();
        Whole.still("repairLoss()", loss, ReliefBuilder::repairLoss);
        ReliefBuilder b = Whole.object();
        int before = b.volume();
        b.repair();
        Check.due("as repair() does", before - loss, b::volume);
    }

    // ---- promises 30 to 35

    @Sentence(of = "promise 30", says = "0 in the lowest row")
    static void overhang() {
        ReliefBuilder b = high("slope 0;", 0);
        b.fill(0, 0, 16, 1, 20);
        Check.due("the lowest row", 0, () -> b.overhang(15, 0));
        b.fill(0, 0, 16, 1, 0);
        b.fill(15, 1, 1, 11, 20);
        Check.due("the second row", 20, () -> b.overhang(15, 1));
        Check.due("the third row", 0, () -> b.overhang(15, 2));
        b.setHeight(15, 10, 19);
        Check.due("the uppermost row", 1, () -> b.overhang(15, 11));
        Check.index("below the lowest row", () -> b.overhang(0, -1));
    }

    @Sentence(of = "promise 31", says = "d: 1 to the height of the cell")
    static void units() {
        ReliefBuilder b = Check.heights(STEPS, "5 0 / 0 0");
        Check.argument("0", () -> b.supportOf(0, 1, 0));
        Check.due("1", 0, () -> b.supportOf(0, 1, 1));
        Check.due("the height", 1, () -> b.supportOf(0, 1, 5));
        Check.argument("behind it", () -> b.supportOf(0, 1, 6));
        Check.argument("a height of 0 has none", () -> b.supportOf(1, 1, 1));
        Check.argument("a height of 0 has none", () -> b.supportOf(1, 1, 0));
        ReliefBuilder top = Check.heights(STEPS, "20");
        Check.due("20", 0, () -> top.supportOf(0, 0, 20));
        Check.argument("21", () -> top.supportOf(0, 0, 21));
    }

    @Sentence(of = "promise 31", says = "Returns the length of the support of unit d of a cell; 0 if it needs none.")
    static void noSupport() {
        ReliefBuilder b = Check.heights(STEPS + "slope 2;", "9 3 / 4 1");
        Check.due("as high as the cell below", 0, () -> b.supportOf(0, 1, 4));
        Check.due("as high as the slope lets it", 0, () -> b.supportOf(0, 1, 6));
        Check.due("one more", 1, () -> b.supportOf(0, 1, 7));
        Check.due("it does not stand out", 0, () -> b.supportOf(1, 1, 3));
        Check.due("in the lowest row", 0, () -> b.supportOf(0, 0, 4));
        Check.due("in the lowest row", 0, () -> b.supportOf(0, 0, 1));
    }

    @Sentence(of = "promise 31", says = "Throws IllegalArgumentException if d is out of range")
    static void wrongUnit() {
        Whole.argument("0", b -> b.supportOf(1, 1, 0));
        Whole.argument("-1", b -> b.supportOf(1, 1, -1));
        Whole.argument("one more than the height", b -> b.supportOf(2, 1, 10));
        Whole.argument("the least int", b -> b.supportOf(1, 1, Integer.MIN_VALUE));
        Whole.argument("the greatest int", b -> b.supportOf(1, 1, Integer.MAX_VALUE));
        Whole.still("the height", Whole.object().supportOf(2, 1, 9), b -> b.supportOf(2, 1, 9));
    }

    @Sentence(of = "promise 32", says = "Returns the number of cells that need supports.")
    static void supportedCells() {
        Check.due("none in the lowest row", 0, () -> Check.heights(STEPS + "slope 0;", "20 20").supportedCells());
        Check.due("none that the slope lets", 0, () -> Check.heights(STEPS + "slope 2;", "5 6 / 3 4").supportedCells());
        Check.due("one by 1", 1, () -> Check.heights(STEPS + "slope 2;", "6 6 / 3 4").supportedCells());
        ReliefBuilder b = high("slope 9;", 0);
        b.fill(0, 1, 16, 1, 20);
        Check.due("the second row", 16, b::supportedCells);
        b.fill(0, 1, 16, 11, 0);
        b.fill(0, 11, 16, 1, 10);
        Check.due("the uppermost row", 16, b::supportedCells);
    }

    @Sentence(of = "promise 33", says = "Returns the sum of the lengths of all supports.")
    static void supportVolume() {
        Check.due("none", 0, () -> high("slope 0;", 20).supportVolume());
        Check.due("none in the lowest row", 0, () -> Check.heights(STEPS + "slope 0;", "20 20").supportVolume());
        Check.due("one", 1, () -> Check.heights(STEPS + "slope 0;", "1 / 0").supportVolume());
        ReliefBuilder b = high("slope 0;", 0);
        b.fill(0, 11, 16, 1, 20);
        Check.due("as many as there can be", 16 * 20 * 11, b::supportVolume);
        b.fill(0, 11, 16, 1, 0);
        b.fill(0, 1, 16, 1, 20);
        Check.due("the second row", 16 * 20, b::supportVolume);
    }

    @Sentence(of = "promise 34", says = "Row by row, from the second one on")
    static void ease() {
        ReliefBuilder low = Check.heights(STEPS + "slope 0;", "20 0 20");
        Check.due("not the lowest row", 0, low::ease);
        ReliefBuilder b = Check.heights(STEPS + "slope 2;", "9 / 9 / 9 / 9 / 1");
        Check.due("the cell below as it is then", 3, b::ease);
        Check.due("the cell below as it is then", "9 / 7 / 5 / 3 / 1", () -> Check.picture(b));
        ReliefBuilder just = Check.heights(STEPS + "slope 2;", "3 4 / 1 1");
        Check.due("by 1", 1, just::ease);
        Check.due("by 1", "3 3 / 1 1", () -> Check.picture(just));
        ReliefBuilder flat = Check.heights(STEPS + "slope 0;", "20 / 0");
        Check.due("slope 0", 1, flat::ease);
        Check.due("slope 0", "0 / 0", () -> Check.picture(flat));
    }

    @Sentence(of = "promise 34", says = "@return the number of cells whose height changed")
    static void easeCount() {
        Check.due("none", 0, () -> high("slope 0;", 20).ease());
        ReliefBuilder all = high("slope 0;", 20);
        all.fill(0, 0, 16, 1, 0);
        Check.due("all but the lowest row", 176, all::ease);
        Check.due("none any more", 0, all::ease);
        ReliefBuilder last = high("slope 9;", 0);
        last.setHeight(15, 11, 10);
        Check.due("the last cell", 1, last::ease);
        Check.due("the last cell", 9, () -> last.height(15, 11));
    }

    @Sentence(of = "promise 35", says = "Returns the least slope (0 to 20) with which no cell would need supports.")
    static void safeSlope() {
        Check.due("one row", 0, () -> Check.heights(STEPS, "0 20").safeSlope());
        Check.due("as high", 0, () -> Check.heights(STEPS, "5 / 5").safeSlope());
        Check.due("lower above", 0, () -> Check.heights(STEPS, "0 / 20").safeSlope());
        Check.due("1", 1, () -> Check.heights(STEPS, "6 / 5").safeSlope());
        Check.due("20", 20, () -> Check.heights(STEPS, "20 / 0").safeSlope());
        Check.due("the present slope does not matter", 2, () -> Check.heights(STEPS + "slope 9;", "7 / 5").safeSlope());
        ReliefBuilder last = high("slope 9;", 0);
        last.setHeight(15, 11, 13);
        Check.due("the last cell", 13, last::safeSlope);
        last.setHeight(0, 1, 14);
        Check.due("the first cell of the second row", 14, last::safeSlope);
    }
}
