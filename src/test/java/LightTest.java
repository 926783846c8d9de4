/** Promises 14 to 24, 50 and 51: floats. What is due is told in floats in the order of the document. */
public final class LightTest {
    public static void main(String[] args) {
        light();
        heightFor();
        wantedAndEstimate();
        sums();
        fingerprint();
        firstOfSeveral();
        dither();
        ditherForgetsAtRows();
        polish();
        polishAsTold();
        polishLimits();
        Check.end("LightTest");
    }

    private static float lightOf(int glass, int height) {
        float light = 1.0f;
        for (int n = 0; n < height; n++) {
            light *= glass / 100.0f;
        }
        return light;
    }

    private static void light() {
        ReliefBuilder b = new ReliefBuilder();
        Check.due("14: 0", 1.0f, () -> b.light(0));
        Check.due("14: 1", 0.8f, () -> b.light(1));
        Check.due("14: 2", 0.8f * 0.8f, () -> b.light(2));
        Check.due("14: 8", lightOf(80, 8), () -> b.light(8));
        Check.argument("14: 9", () -> b.light(9));
        Check.argument("14: -1", () -> b.light(-1));
        ReliefBuilder dark = Check.relief("steps 20 glass 10 base 0;");
        Check.due("14: least", lightOf(10, 20), () -> dark.light(20));
        Check.argument("14: 21", () -> dark.light(21));
        ReliefBuilder clear = Check.relief("steps 20 glass 99 base 20;");
        Check.due("14: below the base", lightOf(99, 7), () -> clear.light(7));
        Check.due("14: 20", lightOf(99, 20), () -> clear.light(20));
    }

    private static void heightFor() {
        ReliefBuilder b = Check.relief("steps 4 glass 50 base 0;");
        // Lights are 1, 1/2, 1/4, 1/8, 1/16 of 255: the limits between them are 191.25, 95.6, 47.8 and 23.9.
        int[][] limits = {{255, 0}, {192, 0}, {191, 1}, {96, 1}, {95, 2}, {48, 2}, {47, 3}, {24, 3}, {23, 4}, {0, 4}};
        for (int[] limit : limits) {
            Check.due("15: " + limit[0], limit[1], () -> b.heightFor(limit[0]));
        }
        Check.argument("15: 256", () -> b.heightFor(256));
        Check.argument("15: -1", () -> b.heightFor(-1));
        ReliefBuilder based = Check.relief("steps 3 glass 50 base 2;");
        Check.due("15: not below the base", 2, () -> based.heightFor(255));
        Check.due("15: not above the greatest", 3, () -> based.heightFor(0));
        // With 20 percent the light of 1 and of 2 is 51 / 255 and about 10 / 255.
        ReliefBuilder steep = Check.relief("steps 2 glass 20 base 0;");
        Check.due("15: nearer", 0, () -> steep.heightFor(154));
        Check.due("15: nearer", 1, () -> steep.heightFor(152));
        // As floats all these lights are as far from 1: the difference is 1.
        ReliefBuilder dark = Check.relief("steps 20 glass 10 base 10;");
        Check.due("15: the lowest one of several", 10, () -> dark.heightFor(255));
        Check.due("15: but not for black", 20, () -> dark.heightFor(0));
    }

    private static void wantedAndEstimate() {
        ReliefBuilder b = Check.heights("steps 6 glass 70 base 0;row 10 20 30;row 40 50 60;row 70 80 90;",
                "3 1 4 / 1 5 0 / 2 6 5");
        float[] l = new float[7];
        for (int h = 0; h < 7; h++) {
            l[h] = lightOf(70, h);
        }
        Check.due("16: wanted", 10 / 255.0f, () -> b.wanted(0, 0));
        Check.due("16: wanted", 60 / 255.0f, () -> b.wanted(2, 1));
        Check.due("17: all neighbors", ((((l[5] * 4.0f + l[1]) + l[0]) + l[6]) + l[1]) / 8.0f, () -> b.estimate(1, 1));
        Check.due("17: none on the left or below", ((((l[2] * 4.0f + l[2]) + l[6]) + l[2]) + l[1]) / 8.0f,
                () -> b.estimate(0, 0));
        Check.due("17: none on the right or above", ((((l[4] * 4.0f + l[1]) + l[4]) + l[0]) + l[4]) / 8.0f,
                () -> b.estimate(2, 2));
        float estimate = b.estimate(2, 1);
        Check.due("17: none on the right", ((((l[0] * 4.0f + l[5]) + l[0]) + l[5]) + l[4]) / 8.0f, () -> estimate);
        Check.due("18: error", estimate - 60 / 255.0f, () -> b.error(2, 1));
        Check.due("18: it may be negative", true, () -> Check.heights("", "8 8").error(0, 0) < 0.0f);
        for (int[] cell : new int[][] {{3, 0}, {0, 3}, {-1, 0}, {0, -1}}) {
            Check.index("16: no cell", () -> b.wanted(cell[0], cell[1]));
            Check.index("17: no cell", () -> b.estimate(cell[0], cell[1]));
            Check.index("18: no cell", () -> b.error(cell[0], cell[1]));
        }
        ReliefBuilder one = Check.relief("panel 1 1;steps 5 glass 30 base 5;");
        float c = lightOf(30, 5);
        Check.due("17: no neighbors", ((((c * 4.0f + c) + c) + c) + c) / 8.0f, () -> one.estimate(0, 0));
    }

    private static void sums() {
        ReliefBuilder b = Check.heights("steps 6 glass 70 base 0;row 150 20 30;row 200 250 160;", "3 1 4 / 1 5 6");
        float sum = 0.0f;
        float greatest = b.estimate(0, 0);
        float least = greatest;
        int brightest = 0;
        int worst = 0;
        float worstError = Math.abs(b.error(0, 0));
        for (int y = 0; y < 2; y++) {
            for (int x = 0; x < 3; x++) {
                float estimate = b.estimate(x, y);
                float error = Math.abs(b.error(x, y));
                sum += error;
                if (estimate > greatest) {
                    brightest = 16 * y + x;
                }
                if (error > worstError) {
                    worst = 16 * y + x;
                }
                worstError = Math.max(worstError, error);
                greatest = Math.max(greatest, estimate);
                least = Math.min(least, estimate);
            }
        }
        Check.due("19: mean", sum / 6, b::meanError);
        Check.due("20: worst", worst, b::worstCell);
        Check.due("20: in the upper row", 17, b::worstCell);
        Check.due("22: brightest", brightest, b::brightest);
        Check.due("22: in the lower row", 0, b::brightest);
        Check.due("22: in the upper row", 16, () -> Check.heights("", "1 1 1 / 8 8 8").brightest());
        Check.due("22: on the right", 1, () -> Check.heights("", "3 1 / 2 1").brightest());
        Check.due("23: the lower one", 0, b::darkestRow);
        Check.due("24: contrast", greatest - least, b::contrast);
        Check.due("20: beside the first", 1, () -> Check.heights("row 255 0;", "1 1").worstCell());
        Check.due("20: above the first", 16, () -> Check.heights("row 255;row 0;", "1 / 1").worstCell());
        Check.due("22: above the first", 16, () -> Check.heights("", "1 / 8").brightest());
        for (String picture : new String[] {"1 8", "8 1", "1 / 8", "8 / 1", "8 8 8 / 8 8 1"}) {
            ReliefBuilder two = Check.heights("", picture);
            java.util.List<Float> estimates = new java.util.ArrayList<>();
            Check.rows(two, (x, y) -> estimates.add(two.estimate(x, y)));
            estimates.sort(null);
            float want = estimates.get(estimates.size() - 1) - estimates.get(0);
            Check.due("24: " + picture, want, two::contrast);
        }
        Check.due("19: nothing is wrong", 0.0f, () -> Check.relief("steps 8 glass 80 base 0;").meanError());
    }

    private static void fingerprint() {
        ReliefBuilder b = Check.heights("steps 20 glass 37 base 0;", "3 1 14 / 0 20 6");
        int hash = 17;
        for (int y = 0; y < 2; y++) {
            for (int x = 0; x < 3; x++) {
                hash = hash * 31 + Float.floatToIntBits(b.estimate(x, y));
            }
        }
        int want = hash;
        Check.due("21: fingerprint", want, b::fingerprint);
        for (int glass = 10; glass < 100; glass += 11) {
            ReliefBuilder one = Check.relief("panel 1 1;steps 20 glass " + glass + " base 0;");
            for (int h = 0; h <= 20; h++) {
                one.setHeight(0, 0, h);
                float c = lightOf(glass, h);
                int bits = 17 * 31 + Float.floatToIntBits(((((c * 4.0f + c) + c) + c) + c) / 8.0f);
                Check.due("21: glass " + glass + " height " + h, bits, one::fingerprint);
            }
        }
    }

    private static void firstOfSeveral() {
        ReliefBuilder flat = Check.relief("panel 5 3;row 9 9 9 9 9;row 9 9 9 9 9;row 9 9 9 9 9;");
        Check.due("20: all are as bad", 0, flat::worstCell);
        Check.due("22: all are as bright", 0, flat::brightest);
        Check.due("23: all are as dark", 0, flat::darkestRow);
        Check.due("24: none", 0.0f, flat::contrast);
        ReliefBuilder b = Check.heights("steps 8 glass 50 base 0;", "0 8 8 8 0 / 8 8 8 8 8 / 8 8 8 8 8 / 0 8 8 8 0");
        Check.due("22: the first corner", 0, b::brightest);
        Check.due("23: the lower one of the dark rows", 1, b::darkestRow);
        ReliefBuilder dark = Check.heights("steps 8 glass 50 base 0;", "0 0 8 / 0 0 0 / 8 0 0");
        Check.due("20: the first corner", 0, dark::worstCell);
        Check.due("23: rows as dark", 0, dark::darkestRow);
        Check.due("23: the uppermost row", 2, () -> Check.heights("", "8 8 / 3 3 / 1 1").darkestRow());
        // A cell that is too bright by more counts as one that is too dark by more.
        ReliefBuilder bright = Check.heights("row 0 255;", "1 3");
        Check.due("20: absolute values", 0, bright::worstCell);
        ReliefBuilder low = Check.heights("row 255 0;", "8 8");
        Check.due("20: absolute values", 0, low::worstCell);
    }

    private static void dither() {
        ReliefBuilder b = Check.relief("panel 6 1;steps 1 glass 10 base 0;row 128 128 128 128 128 128;");
        Check.due("50: ahead", "1 1 1 1 1 1", () -> Check.picture(Check.relief(
                "panel 6 1;steps 1 glass 10 base 0;row 128 128 128 128 128 128;")));
        float left = 0.0f;
        StringBuilder want = new StringBuilder();
        int changed = 0;
        for (int x = 0; x < 6; x++) {
            float w = 128 / 255.0f + left;
            int h = Math.abs(1.0f - w) <= Math.abs(0.1f - w) ? 0 : 1;
            left = w - (h == 0 ? 1.0f : 0.1f);
            want.append(x > 0 ? " " : "").append(h);
            changed += h == 1 ? 0 : 1;
        }
        int changes = changed;
        Check.due("50: changed", changes, b::dither);
        Check.due("50: heights", want.toString(), () -> Check.picture(b));
        Check.due("50: heights", "1 0 1 0 1 0", () -> Check.picture(b));
        Check.due("50: tones stay", "128 128 128 128 128 128", () -> Check.tones(b));
        Check.due("50: again", 0, b::dither);
        b.setHeight(3, 0, 1);
        Check.due("50: present heights do not matter", 1, b::dither);
    }

    private static void ditherForgetsAtRows() {
        ReliefBuilder b = Check.relief("panel 1 3;steps 1 glass 10 base 0;row 128;row 128;row 128;");
        Check.due("50: one column", 0, b::dither);
        Check.due("50: one column", "1 / 1 / 1", () -> Check.picture(b));
    }

    private static void polish() {
        ReliefBuilder b = Check.relief("panel 1 1;steps 8 glass 50 base 0;row 64;");
        b.setHeight(0, 0, 6);
        Check.due("51: one step", 1, b::polish);
        Check.due("51: one step", 5, () -> b.height(0, 0));
        b.polish();
        b.polish();
        b.polish();
        Check.due("51: as near as can be", 2, () -> b.height(0, 0));
        Check.due("51: no more", 0, b::polish);
        b.setHeight(0, 0, 0);
        Check.due("51: up", 1, b::polish);
        Check.due("51: up", 1, () -> b.height(0, 0));
    }

    private static void polishAsTold() {
        String[] pictures = {"8 8 8 / 8 2 8 / 8 8 8", "1 8 1 / 8 1 8 / 1 8 1", "3 4 2 / 2 5 4 / 6 3 1", "8 8 8 8 / 1 1 1 1"};
        String[] rows = {"row 255 250 255;row 250 99 250;", "row 0 9 200;row 30 180 90;row 77 66 55;",
            "row 128 128 128;row 128 128 128;row 128 128 128;", "row 90 60 30 15;row 15 30 60 90;"};
        for (int i = 0; i < pictures.length; i++) {
            polishAsTold("steps 8 glass 75 base 1;" + rows[i], pictures[i]);
        }
        java.util.Random random = new java.util.Random(51);
        for (int n = 0; n < 60; n++) {
            StringBuilder row = new StringBuilder("row");
            StringBuilder picture = new StringBuilder();
            for (int cell = 0; cell < 9; cell++) {
                row.append(cell > 0 && cell % 3 == 0 ? ";row " : " ").append(random.nextInt(256));
                picture.append(cell > 0 && cell % 3 == 0 ? " / " : " ").append(1 + random.nextInt(8));
            }
            polishAsTold("steps 8 glass 75 base 1;" + row + ";", picture.toString());
        }
    }

    private static void polishAsTold(String settings, String picture) {
        ReliefBuilder b = Check.heights(settings, picture);
        ReliefBuilder slow = Check.heights(settings, picture);
        int width = slow.setting(0);
        int lines = slow.setting(1);
        int changed = 0;
        for (int y = 0; y < lines; y++) {
            for (int x = 0; x < width; x++) {
                changed += polishCell(slow, width, lines, x, y);
            }
        }
        int changes = changed;
        Check.due("51: changed", changes, b::polish);
        Check.due("51: heights", Check.picture(slow), () -> Check.picture(b));
    }

    private static int polishCell(ReliefBuilder b, int width, int rows, int x, int y) {
        int[][] cells = {{x, y}, {x - 1, y}, {x + 1, y}, {x, y - 1}, {x, y + 1}};
        int before = b.height(x, y);
        int best = -1;
        float least = 0.0f;
        for (int h = Math.max(before - 1, 1); h <= Math.min(before + 1, 8); h++) {
            b.setHeight(x, y, h);
            float sum = 0.0f;
            for (int[] cell : cells) {
                boolean isThere = cell[0] >= 0 && cell[0] < width && cell[1] >= 0 && cell[1] < rows;
                sum += isThere ? Math.abs(b.error(cell[0], cell[1])) : 0.0f;
            }
            if (best < 0 || sum < least) {
                best = h;
                least = sum;
            }
        }
        b.setHeight(x, y, best);
        return best == before ? 0 : 1;
    }

    private static void polishLimits() {
        ReliefBuilder low = Check.relief("panel 2 2;steps 3 glass 50 base 2;");
        Check.due("51: not below the base", 0, low::polish);
        Check.due("51: not below the base", "2 2 / 2 2", () -> Check.picture(low));
        ReliefBuilder high = Check.relief("panel 2 2;steps 3 glass 50 base 2;row 0 0;row 0 0;");
        Check.due("51: not above the greatest", 0, high::polish);
        Check.due("51: not above the greatest", "3 3 / 3 3", () -> Check.picture(high));
        ReliefBuilder one = Check.relief("panel 3 3;steps 4 glass 50 base 4;row 200 100 0;");
        Check.due("51: one height alone", 0, one::polish);
        // As floats the errors of all these heights are -1: the lowest one of several.
        ReliefBuilder tie = Check.relief("panel 1 1;steps 20 glass 10 base 10;");
        tie.setHeight(0, 0, 15);
        Check.due("51: as good, but lower", 1, tie::polish);
        Check.due("51: as good, but lower", 14, () -> tie.height(0, 0));
    }
}
