/** Promises 25 to 35: walls and supports. */
public final class WallTest {
    private static final String STEPS = "steps 20 glass 80 base 0;";

    public static void main(String[] args) {
        isThin();
        widths();
        repair();
        repairInPasses();
        repairLoss();
        smooth();
        overhang();
        supportOf();
        supports();
        ease();
        safeSlope();
        Check.end("WallTest");
    }

    private static String thin(ReliefBuilder b) {
        return Check.rows(b, (x, y) -> b.isThin(x, y) ? 1 : 0);
    }

    private static void isThin() {
        ReliefBuilder b = Check.heights(STEPS, "0 2 0 3 / 2 2 0 3 / 0 0 5 0");
        Check.due("25: cells", "0 0 0 0 / 0 0 0 0 / 0 0 1 0", () -> thin(b));
        Check.due("26: one", 1, b::thinCells);
        ReliefBuilder higher = Check.heights(STEPS, "1 2 1 / 0 0 0");
        Check.due("25: lower cells end a run, higher ones do not", "0 1 0 / 0 0 0", () -> thin(higher));
        ReliefBuilder corner = Check.heights(STEPS, "4 0 4 / 0 4 0 / 4 0 4");
        Check.due("25: not across corners", "1 0 1 / 0 1 0 / 1 0 1", () -> thin(corner));
        Check.due("26: five", 5, corner::thinCells);
        ReliefBuilder based = Check.heights("steps 9 glass 80 base 3;", "3 4 3 / 3 3 3");
        Check.due("25: the base is never thin", "0 1 0 / 0 0 0", () -> thin(based));
        Check.due("25: nor is it alone", false, () -> Check.relief("panel 1 1;").isThin(0, 0));
        Check.due("25: one cell that is higher", true, () -> Check.relief("panel 1 1;row 0;").isThin(0, 0));
        for (int[] cell : new int[][] {{4, 0}, {0, 3}, {-1, 0}, {0, -1}}) {
            Check.index("25: no cell", () -> b.isThin(cell[0], cell[1]));
        }
    }

    private static void widths() {
        String bars = "1 0 0 0 0 0 / 0 2 2 0 0 0 / 0 0 0 0 0 0 / 3 3 3 0 0 4 / 0 0 0 0 0 4 / 5 5 5 5 0 4";
        int[] want = {0, 1, 3, 9};
        for (int wall = 1; wall <= 4; wall++) {
            ReliefBuilder b = Check.heights(STEPS + "wall " + wall + ";", bars);
            Check.due("26: wall " + wall, want[wall - 1], b::thinCells);
        }
        ReliefBuilder b = Check.heights(STEPS + "wall 3;", "0 1 1 0 / 0 1 0 0 / 0 1 0 0");
        Check.due("25: the column is long enough", "0 0 1 0 / 0 0 0 0 / 0 0 0 0", () -> thin(b));
    }

    private static void repair() {
        ReliefBuilder b = Check.heights(STEPS, "0 3 0 / 0 0 0 / 2 2 0");
        Check.due("27: passes", 3, b::repair);
        Check.due("27: heights", "0 0 0 / 0 0 0 / 2 2 0", () -> Check.picture(b));
        Check.due("27: none", 0, b::repair);
        ReliefBuilder based = Check.heights("steps 9 glass 80 base 2;", "2 9 2 / 2 2 2");
        Check.due("27: down to the base", 7, based::repair);
        Check.due("27: down to the base", "2 2 2 / 2 2 2", () -> Check.picture(based));
        ReliefBuilder neighbor = Check.heights(STEPS, "4 7 / 0 0");
        Check.due("27: down to the neighbor", 3, neighbor::repair);
        Check.due("27: down to the neighbor", "4 4 / 0 0", () -> Check.picture(neighbor));
        ReliefBuilder none = Check.heights(STEPS + "wall 1;", "0 9 0");
        Check.due("27: wall 1", 0, none::repair);
        ReliefBuilder all = Check.heights(STEPS + "wall 4;", "20 20 20 / 20 20 20 / 20 20 20");
        Check.due("27: all", 20, all::repair);
        Check.due("27: all", 0, all::volume);
    }

    private static void repairInPasses() {
        ReliefBuilder b = Check.heights(STEPS + "wall 3;", "0 5 4 0");
        Check.due("27: at the same time", 5, b::repair);
        Check.due("27: at the same time", "0 0 0 0", () -> Check.picture(b));
        ReliefBuilder top = Check.heights(STEPS + "wall 3;", "3 5 6 5 1");
        Check.due("27: the top", 1, top::repair);
        Check.due("27: the top", "3 5 5 5 1", () -> Check.picture(top));
        ReliefBuilder stairs = Check.heights(STEPS + "wall 3;", "1 4 2 1 / 0 0 0 0");
        Check.due("27: stairs", 3, stairs::repair);
        Check.due("27: stairs", "1 1 1 1 / 0 0 0 0", () -> Check.picture(stairs));
    }

    private static void repairLoss() {
        ReliefBuilder b = Check.heights(STEPS, "0 3 0 / 0 0 4 / 2 2 0");
        Check.still("29: tries", b, () -> Check.due("29: loss", 7, b::repairLoss));
        Check.due("29: passes", 4, b::repair);
        Check.due("29: none", 0, b::repairLoss);
        Check.due("29: as it was told", 4, b::volume);
    }

    private static void smooth() {
        ReliefBuilder b = Check.heights(STEPS, "0 0 0 0 / 0 9 0 0 / 0 0 0 1");
        Check.due("28: changed", 11, () -> b.smooth(2));
        Check.due("28: heights", "5 7 5 3 / 7 9 7 5 / 5 7 5 3", () -> Check.picture(b));
        ReliefBuilder corners = Check.heights(STEPS, "6 0 0 0 / 0 0 0 0 / 0 0 0 0 / 0 0 0 20");
        Check.due("28: from the right below", 11, () -> corners.smooth(5));
        Check.due("28: from the right below", "6 1 0 5 / 1 0 5 10 / 0 5 10 15 / 5 10 15 20",
                () -> Check.picture(corners));
        ReliefBuilder left = Check.heights(STEPS, "0 0 0 / 0 0 0 / 7 0 0");
        Check.due("28: from the left below", 7, () -> left.smooth(2));
        Check.due("28: from the left below", "3 1 0 / 5 3 1 / 7 5 3", () -> Check.picture(left));
        ReliefBuilder above = Check.heights(STEPS, "7 0 0 / 0 0 0 / 0 0 0");
        above.smooth(1);
        Check.due("28: from the left above", "7 6 5 / 6 5 4 / 5 4 3", () -> Check.picture(above));
        ReliefBuilder right = Check.heights(STEPS, "0 0 7 / 0 0 0 / 0 0 0");
        right.smooth(1);
        Check.due("28: from the right above", "5 6 7 / 4 5 6 / 3 4 5", () -> Check.picture(right));
        ReliefBuilder flat = Check.heights(STEPS, "0 20 / 0 0");
        Check.due("28: 20 is too flat", 0, () -> flat.smooth(20));
        Check.due("28: 19", 2, () -> flat.smooth(19));
        Check.still("28: wrong calls", flat, () -> {
            Check.argument("28: 0", () -> flat.smooth(0));
            Check.argument("28: 21", () -> flat.smooth(21));
            Check.argument("28: -1", () -> flat.smooth(-1));
        });
    }

    private static void overhang() {
        ReliefBuilder b = Check.heights(STEPS + "slope 2;", "9 4 3 0 / 1 2 1 5 / 8 0 0 9");
        Check.due("30: cells", "6 0 0 0 / 0 0 0 0 / 0 0 0 0", () -> Check.rows(b, b::overhang));
        ReliefBuilder steep = Check.heights(STEPS + "slope 0;", "9 4 3 0 / 1 2 1 5 / 8 0 0 9");
        Check.due("30: slope 0", "8 2 2 0 / 0 2 1 0 / 0 0 0 0", () -> Check.rows(steep, steep::overhang));
        for (int[] cell : new int[][] {{4, 0}, {0, 3}, {-1, 0}, {0, -1}}) {
            Check.index("30: no cell", () -> b.overhang(cell[0], cell[1]));
            Check.index("31: no cell", () -> b.supportOf(cell[0], cell[1], 1));
        }
    }

    private static void supportOf() {
        ReliefBuilder b = Check.heights(STEPS + "slope 1;", "9 1 / 2 0 / 5 0 / 0 0 / 8 0");
        int[] want = {0, 0, 0, 1, 1, 3, 3, 3, 4};
        for (int d = 1; d <= 9; d++) {
            int unit = d;
            Check.due("31: unit " + d, want[d - 1], () -> b.supportOf(0, 4, unit));
        }
        Check.argument("31: unit 0", () -> b.supportOf(0, 4, 0));
        Check.argument("31: unit 10", () -> b.supportOf(0, 4, 10));
        Check.argument("31: height 0 has no unit", () -> b.supportOf(1, 0, 1));
        Check.argument("31: negative", () -> b.supportOf(0, 4, -1));
        Check.index("31: no cell first", () -> b.supportOf(2, 0, 0));
        Check.due("31: in the lowest row", 0, () -> b.supportOf(0, 0, 8));
        Check.due("31: it does not stand out", 0, () -> b.supportOf(1, 4, 1));
    }

    private static void supports() {
        ReliefBuilder b = Check.heights(STEPS + "slope 1;", "9 1 / 2 0 / 5 0 / 0 0 / 8 0");
        Check.due("32: two", 2, b::supportedCells);
        Check.due("33: all", 4 * 1 + 15, b::supportVolume);
        ReliefBuilder low = Check.heights(STEPS, "0 5 0 9 / 0 3 0 2");
        Check.due("32: by 1, in the second row, and at the end", 2, low::supportedCells);
        Check.due("33: by 1, in the second row, and at the end", 1 + 6, low::supportVolume);
        ReliefBuilder none = Check.heights(STEPS, "3 3 / 2 3 / 1 9");
        Check.due("32: none", 0, none::supportedCells);
        Check.due("33: none", 0, none::supportVolume);
        ReliefBuilder row = Check.heights(STEPS + "slope 0;", "20 20 20");
        Check.due("32: the lowest row", 0, row::supportedCells);
        Check.due("33: the lowest row", 0, row::supportVolume);
    }

    private static void ease() {
        ReliefBuilder b = Check.heights(STEPS + "slope 2;", "9 9 0 / 9 1 3 / 4 0 1");
        Check.due("34: changed", 3, b::ease);
        Check.due("34: row by row", "8 3 0 / 6 1 3 / 4 0 1", () -> Check.picture(b));
        Check.due("34: none", 0, b::ease);
        Check.due("34: none stands out", 0, b::supportedCells);
        Check.due("34: the lowest row", 0, () -> Check.heights(STEPS, "9 0 9").ease());
    }

    private static void safeSlope() {
        Check.due("35: none", 0, () -> Check.heights(STEPS + "slope 3;", "0 1 / 5 1").safeSlope());
        Check.due("35: one row", 0, () -> Check.heights(STEPS, "0 20").safeSlope());
        Check.due("35: some", 4, () -> Check.heights(STEPS, "9 1 / 5 0 / 20 3").safeSlope());
        Check.due("35: at the end", 7, () -> Check.heights(STEPS, "1 2 9 / 0 1 2").safeSlope());
        Check.due("35: the most", 20, () -> Check.heights(STEPS + "slope 9;", "20 / 0").safeSlope());
    }
}
