/** Promises 55 to 60: racks and stamps. */
public final class StampTest {
    public static void main(String[] args) {
        putAndTake();
        kinds();
        wrongStamps();
        wrongPlaces();
        move();
        moveErrors();
        stamp();
        stampLimits();
        stampErrors();
        stampGain();
        Check.end("StampTest");
    }

    private static void putAndTake() {
        ReliefBuilder b = new ReliefBuilder();
        Check.due("55: put", true, () -> b.putStamp(2, 3, 1, 6, 20));
        Check.due("57: it is there", 1620, () -> b.stampAt(2, 3));
        Check.due("57: not elsewhere", -1, () -> b.stampAt(2, 2));
        Check.due("55: instead of it", true, () -> b.putStamp(2, 3, 0, 1, 1));
        Check.due("57: the new one", 101, () -> b.stampAt(2, 3));
        Check.due("56: take", true, () -> b.takeStamp(2, 3));
        Check.due("57: it is gone", -1, () -> b.stampAt(2, 3));
        Check.due("56: no more", false, () -> b.takeStamp(2, 3));
        for (int rack = 0; rack < 3; rack++) {
            for (int place = 0; place < 4; place++) {
                b.putStamp(rack, place, rack == 1 ? 1 : 0, place + 1, rack + 1);
            }
        }
        Check.due("57: all", "101 201 301 401 1102 1202 1302 1402 103 203 303 403 ",
                () -> Check.look(b).substring(Check.look(b).lastIndexOf('|') + 1));
    }

    private static void kinds() {
        ReliefBuilder b = new ReliefBuilder();
        b.putStamp(0, 0, 0, 2, 2);
        Check.still("55: what a rack does not take", b, () -> {
            Check.due("55: no post in rack 0", false, () -> b.putStamp(0, 0, 1, 3, 3));
            Check.due("55: no hole in rack 1", false, () -> b.putStamp(1, 0, 0, 3, 3));
        });
        Check.due("55: a post in rack 1", true, () -> b.putStamp(1, 0, 1, 3, 3));
        Check.due("55: a hole in rack 2", true, () -> b.putStamp(2, 0, 0, 3, 3));
        Check.due("55: a post in rack 2", true, () -> b.putStamp(2, 1, 1, 3, 3));
    }

    private static void wrongStamps() {
        ReliefBuilder b = new ReliefBuilder();
        b.putStamp(2, 0, 0, 2, 2);
        Check.still("55: wrong stamps", b, () -> {
            Check.argument("55: kind 2", () -> b.putStamp(2, 0, 2, 1, 1));
            Check.argument("55: kind -1", () -> b.putStamp(2, 0, -1, 1, 1));
            Check.argument("55: size 0", () -> b.putStamp(2, 0, 0, 0, 1));
            Check.argument("55: size 7", () -> b.putStamp(2, 0, 0, 7, 1));
            Check.argument("55: depth 0", () -> b.putStamp(2, 0, 0, 1, 0));
            Check.argument("55: depth 21", () -> b.putStamp(2, 0, 0, 1, 21));
            Check.argument("55: ahead of false", () -> b.putStamp(0, 0, 1, 7, 1));
        });
    }

    private static void wrongPlaces() {
        ReliefBuilder b = new ReliefBuilder();
        b.putStamp(0, 0, 0, 2, 2);
        Check.still("55 to 60: wrong places", b, () -> {
            for (int[] p : new int[][] {{-1, 0}, {3, 0}, {0, -1}, {0, 4}, {Integer.MIN_VALUE, 0},
                {0, Integer.MAX_VALUE}, {1, -1}}) {
                Check.index("55: place", () -> b.putStamp(p[0], p[1], 0, 1, 1));
                Check.index("55: place ahead of the kind", () -> b.putStamp(p[0], p[1], 9, 1, 1));
                Check.index("56: place", () -> b.takeStamp(p[0], p[1]));
                Check.index("57: place", () -> b.stampAt(p[0], p[1]));
                Check.index("58: place", () -> b.moveStamp(p[0], p[1], 0, 0));
                Check.index("58: other place", () -> b.moveStamp(0, 0, p[0], p[1]));
                Check.index("58: other place ahead of an empty one", () -> b.moveStamp(2, 0, p[0], p[1]));
                Check.index("59: place", () -> b.stamp(p[0], p[1], 0, 0));
                Check.index("60: place", () -> b.stampGain(p[0], p[1], 0, 0));
            }
        });
    }

    private static void move() {
        ReliefBuilder b = new ReliefBuilder();
        b.putStamp(0, 1, 0, 2, 3);
        Check.due("58: within a rack", true, () -> b.moveStamp(0, 1, 0, 2));
        Check.due("58: it is there", 203, () -> b.stampAt(0, 2));
        Check.due("58: not here", -1, () -> b.stampAt(0, 1));
        Check.due("58: into another rack", true, () -> b.moveStamp(0, 2, 2, 0));
        Check.due("58: it is there", 203, () -> b.stampAt(2, 0));
        Check.due("58: the same place", true, () -> b.moveStamp(2, 0, 2, 0));
        Check.due("58: it is there", 203, () -> b.stampAt(2, 0));
        b.putStamp(2, 1, 1, 4, 5);
        Check.due("58: instead of another one", true, () -> b.moveStamp(2, 1, 2, 0));
        Check.due("58: it is there", 1405, () -> b.stampAt(2, 0));
        Check.due("58: the other one is gone", -1, () -> b.stampAt(2, 1));
        Check.due("58: a post into rack 1", true, () -> b.moveStamp(2, 0, 1, 3));
        Check.due("58: and back", true, () -> b.moveStamp(1, 3, 2, 3));
        Check.due("58: it is there", 1405, () -> b.stampAt(2, 3));
    }

    private static void moveErrors() {
        ReliefBuilder b = new ReliefBuilder();
        b.putStamp(2, 0, 0, 2, 3);
        b.putStamp(2, 1, 1, 2, 3);
        b.putStamp(0, 0, 0, 6, 6);
        Check.still("58: wrong moves", b, () -> {
            Check.due("58: no hole into rack 1", false, () -> b.moveStamp(2, 0, 1, 0));
            Check.due("58: no post into rack 0", false, () -> b.moveStamp(2, 1, 0, 0));
            Check.state("58: empty", () -> b.moveStamp(2, 2, 2, 0));
            Check.state("58: empty, the same place", () -> b.moveStamp(2, 2, 2, 2));
        });
    }

    private static void stamp() {
        ReliefBuilder b = Check.relief("panel 4 3;steps 9 glass 80 base 1;");
        b.putStamp(1, 0, 1, 2, 3);
        b.putStamp(0, 0, 0, 3, 2);
        Check.due("59: a post", 4, () -> b.stamp(1, 0, 1, 1));
        Check.due("59: a post", "1 4 4 1 / 1 4 4 1 / 1 1 1 1", () -> Check.picture(b));
        Check.due("59: a hole", 4, () -> b.stamp(0, 0, 0, 0));
        Check.due("59: a hole", "1 2 2 1 / 1 2 2 1 / 1 1 1 1", () -> Check.picture(b));
        Check.due("59: over the edge", 1, () -> b.stamp(1, 0, 3, 2));
        Check.due("59: over the edge", "1 2 2 4 / 1 2 2 1 / 1 1 1 1", () -> Check.picture(b));
        Check.due("59: the stamp stays", 1203, () -> b.stampAt(1, 0));
        Check.due("59: tones stay", "255 255 255 255 / 255 255 255 255 / 255 255 255 255", () -> Check.tones(b));
        b.putStamp(2, 0, 1, 1, 1);
        Check.due("59: one cell", 1, () -> b.stamp(2, 0, 0, 0));
        Check.due("59: one cell", 2, () -> b.height(0, 0));
        Check.due("59: undo", 3, b::undo);
    }

    private static void stampLimits() {
        ReliefBuilder b = Check.heights("steps 9 glass 80 base 3;", "3 4 8 9");
        b.putStamp(2, 0, 0, 6, 5);
        b.putStamp(2, 1, 1, 6, 20);
        Check.due("60: not below the base", -12 + 1, () -> b.stampGain(2, 0, 0, 0));
        Check.due("59: not below the base", 3, () -> b.stamp(2, 0, 0, 0));
        Check.due("59: not below the base", "3 3 3 4", () -> Check.picture(b));
        Check.due("60: not above the greatest", 23, () -> b.stampGain(2, 1, 0, 0));
        Check.due("59: not above the greatest", 4, () -> b.stamp(2, 1, 0, 0));
        Check.due("59: not above the greatest", "9 9 9 9", () -> Check.picture(b));
        Check.due("60: no more", 0, () -> b.stampGain(2, 1, 0, 0));
        Check.due("59: no more", 0, () -> b.stamp(2, 1, 0, 0));
        ReliefBuilder six = Check.relief("panel 8 8;");
        six.putStamp(1, 1, 1, 6, 7);
        Check.due("59: size 6", 36, () -> six.stamp(1, 1, 1, 2));
        Check.due("59: its corner", 8, () -> six.height(6, 7));
        Check.due("59: beside it", 1, () -> six.height(7, 7));
        Check.due("59: below it", 1, () -> six.height(6, 1));
    }

    private static void stampErrors() {
        ReliefBuilder b = Check.relief("panel 3 2;");
        b.putStamp(1, 0, 1, 2, 3);
        Check.still("59, 60: wrong calls", b, () -> {
            for (int[] cell : new int[][] {{3, 0}, {0, 2}, {-1, 0}, {0, -1}}) {
                Check.index("59: no cell", () -> b.stamp(1, 0, cell[0], cell[1]));
                Check.index("59: no cell ahead of an empty place", () -> b.stamp(1, 1, cell[0], cell[1]));
                Check.index("60: no cell", () -> b.stampGain(1, 0, cell[0], cell[1]));
                Check.index("60: no cell ahead of an empty place", () -> b.stampGain(1, 1, cell[0], cell[1]));
            }
            Check.state("59: empty", () -> b.stamp(1, 1, 0, 0));
            Check.state("60: empty", () -> b.stampGain(1, 1, 0, 0));
        });
        Check.due("59: nothing to undo", -1, b::undo);
    }

    private static void stampGain() {
        ReliefBuilder b = Check.relief("panel 4 3;steps 9 glass 80 base 1;");
        b.putStamp(1, 0, 1, 2, 3);
        Check.still("60: tries", b, () -> {
            Check.due("60: all", 12, () -> b.stampGain(1, 0, 1, 1));
            Check.due("60: over the edge", 3, () -> b.stampGain(1, 0, 3, 2));
        });
        Check.due("60: nothing to undo", -1, b::undo);
    }
}
