/** Section 6 and promises 55 to 60: racks and stamps. */
final class StampBounds {
    private static final int HOLE = 0;
    private static final int POST = 1;

    private StampBounds() {
    }

    private static ReliefBuilder stamped(String settings, String picture, int kind, int size, int depth, int x, int y) {
        ReliefBuilder b = Check.heights(settings, picture);
        b.putStamp(2, 0, kind, size, depth);
        b.stamp(2, 0, x, y);
        return b;
    }

    // ---- section 6

    @Sentence(of = "section 6", says = "There are 3 racks (0 to 2) with 4 places each (0 to 3) for stamps.")
    static void places() {
        ReliefBuilder b = new ReliefBuilder();
        for (int rack = 0; rack < 3; rack++) {
            for (int place = 0; place < 4; place++) {
                b.putStamp(rack, place, rack == 1 ? POST : HOLE, 1 + place, 1 + rack);
            }
        }
        for (int rack = 0; rack < 3; rack++) {
            for (int place = 0; place < 4; place++) {
                int r = rack;
                int p = place;
                int want = (rack == 1 ? 1000 : 0) + (1 + place) * 100 + 1 + rack;
                Check.due("rack " + rack + " place " + place, want, () -> b.stampAt(r, p));
            }
        }
        for (int[] no : new int[][] {{-1, 0}, {3, 0}, {0, -1}, {0, 4}, {2, 4}, {1, -1}, {3, 3}}) {
            Check.index("rack " + no[0] + " place " + no[1], () -> b.stampAt(no[0], no[1]));
        }
    }

    @Sentence(of = "section 6",
            says = "A stamp is a hole (0) or a post (1), with a size (1 to 6 cells) and a depth (1 to 20)")
    static void stamps() {
        for (int kind = -1; kind <= 2; kind++) {
            int k = kind;
            put("kind " + kind, kind >= 0 && kind <= 1, b -> b.putStamp(2, 0, k, 3, 10));
        }
        for (int size = 0; size <= 7; size++) {
            int s = size;
            put("size " + size, size >= 1 && size <= 6, b -> b.putStamp(2, 0, POST, s, 10));
        }
        for (int depth = 0; depth <= 21; depth++) {
            int d = depth;
            put("depth " + depth, depth >= 1 && depth <= 20, b -> b.putStamp(2, 0, HOLE, 3, d));
        }
    }

    private static void put(String what, boolean isRight, Whole.Use call) {
        ReliefBuilder b = new ReliefBuilder();
        if (isRight) {
            Check.due(what, true, () -> call.of(b));
        } else {
            Check.argument(what, () -> call.of(b));
        }
        Check.due(what + " is there", isRight, () -> b.takeStamp(2, 0));
    }

    @Sentence(of = "section 6", says = "Rack 0 takes holes only, rack 1 posts only, rack 2 both.")
    static void kindsOfRacks() {
        boolean[][] takes = {{true, false}, {false, true}, {true, true}};
        for (int rack = 0; rack < 3; rack++) {
            for (int kind = HOLE; kind <= POST; kind++) {
                int r = rack;
                int k = kind;
                ReliefBuilder b = new ReliefBuilder();
                Check.due("rack " + r + " kind " + k, takes[r][k], () -> b.putStamp(r, 3, k, 6, 20));
                Check.due("rack " + r + " kind " + k, takes[r][k] ? k * 1000 + 620 : -1, () -> b.stampAt(r, 3));
            }
        }
    }

    @Sentence(of = "section 6",
            says = "all cells of the square with this size whose lowest left cell it is, as far as they")
    static void square() {
        String flat = "1 1 1 / 1 1 1 / 1 1 1";
        String[] post = {"1 1 1 / 1 1 1 / 3 1 1", "1 1 1 / 3 3 1 / 3 3 1", "3 3 3 / 3 3 3 / 3 3 3",
            "3 3 3 / 3 3 3 / 3 3 3"};
        for (int size = 1; size <= 4; size++) {
            int s = size;
            Check.due("size " + size, post[size - 1], () -> Check.picture(stamped("", flat, POST, s, 2, 0, 0)));
        }
        Check.due("over the right edge", "1 1 1 / 1 1 3 / 1 1 3",
                () -> Check.picture(stamped("", flat, POST, 2, 2, 2, 0)));
        Check.due("over the upper edge", "3 3 1 / 1 1 1 / 1 1 1",
                () -> Check.picture(stamped("", flat, POST, 2, 2, 0, 2)));
        Check.due("over both", "1 1 3 / 1 1 1 / 1 1 1", () -> Check.picture(stamped("", flat, POST, 6, 2, 2, 2)));
        Check.due("it ends at the edge", "1 3 3 / 1 3 3 / 1 1 1",
                () -> Check.picture(stamped("", flat, POST, 2, 2, 1, 1)));
        ReliefBuilder wide = Check.relief("panel 16 12;");
        wide.putStamp(1, 0, POST, 6, 2);
        Check.due("36 cells", 36, () -> wide.stamp(1, 0, 10, 6));
        Check.due("it does not go on in the next row", 1, () -> wide.height(0, 8));
        Check.due("one cell of it", 1, () -> wide.stamp(1, 0, 15, 11));
    }

    @Sentence(of = "section 6", says = "but not lower than the base, and higher by the depth by a post")
    static void holes() {
        String steps = "steps 9 glass 80 base 3;";
        Check.due("by 1", "3 3 4 7 8", () -> Check.picture(stamped(steps, "3 4 5 8 9", HOLE, 6, 1, 0, 0)));
        Check.due("by 5", "3 3 3 3 4", () -> Check.picture(stamped(steps, "3 4 5 8 9", HOLE, 6, 5, 0, 0)));
        Check.due("by 6", "3 3 3 3 3", () -> Check.picture(stamped(steps, "3 4 5 8 9", HOLE, 6, 6, 0, 0)));
        Check.due("by 20", "3 3 3 3 3", () -> Check.picture(stamped(steps, "3 4 5 8 9", HOLE, 6, 20, 0, 0)));
        String zero = "steps 20 glass 80 base 0;";
        Check.due("base 0", "0 0", () -> Check.picture(stamped(zero, "19 20", HOLE, 6, 20, 0, 0)));
    }

    @Sentence(of = "section 6", says = "but not higher than the greatest height")
    static void posts() {
        String steps = "steps 9 glass 80 base 3;";
        Check.due("by 1", "4 5 6 9 9", () -> Check.picture(stamped(steps, "3 4 5 8 9", POST, 6, 1, 0, 0)));
        Check.due("by 5", "8 9 9 9 9", () -> Check.picture(stamped(steps, "3 4 5 8 9", POST, 6, 5, 0, 0)));
        Check.due("by 6", "9 9 9 9 9", () -> Check.picture(stamped(steps, "3 4 5 8 9", POST, 6, 6, 0, 0)));
        Check.due("by 20", "9 9 9 9 9", () -> Check.picture(stamped(steps, "3 4 5 8 9", POST, 6, 20, 0, 0)));
        String twenty = "steps 20 glass 80 base 0;";
        Check.due("20", "20 20", () -> Check.picture(stamped(twenty, "0 1", POST, 6, 20, 0, 0)));
    }

    // ---- promises 55 to 57

    @Sentence(of = "promise 55", says = "Puts a stamp into a place, instead of one that is there.")
    static void putInstead() {
        ReliefBuilder b = new ReliefBuilder();
        b.putStamp(2, 3, POST, 6, 20);
        Check.due("another one", true, () -> b.putStamp(2, 3, HOLE, 1, 1));
        Check.due("it alone is there", 101, () -> b.stampAt(2, 3));
        Check.due("one can be taken", true, () -> b.takeStamp(2, 3));
        Check.due("no second one", false, () -> b.takeStamp(2, 3));
    }

    @Sentence(of = "promise 55", says = "kind: 0 a hole, 1 a post")
    static void kinds() {
        Check.due("0", "1", () -> Check.picture(stamped("", "5", 0, 1, 4, 0, 0)));
        Check.due("1", "8", () -> Check.picture(stamped("", "5", 1, 1, 3, 0, 0)));
        Check.argument("2", () -> new ReliefBuilder().putStamp(2, 0, 2, 1, 1));
        Check.argument("-1", () -> new ReliefBuilder().putStamp(2, 0, -1, 1, 1));
    }

    @Sentence(of = "promise 55", says = "size: 1 to 6")
    static void sizes() {
        ReliefBuilder b = Check.relief("panel 8 8;steps 20 glass 80 base 0;");
        for (int size = 1; size <= 6; size++) {
            int s = size;
            b.putStamp(2, 0, POST, s, 1);
            Check.due("size " + size, size * size, () -> b.stamp(2, 0, 1, 1));
        }
        Check.argument("0", () -> b.putStamp(2, 0, POST, 0, 1));
        Check.argument("7", () -> b.putStamp(2, 0, POST, 7, 1));
    }

    @Sentence(of = "promise 55", says = "depth: 1 to 20")
    static void depths() {
        ReliefBuilder b = Check.relief("panel 1 1;steps 20 glass 80 base 0;");
        for (int depth = 1; depth <= 20; depth++) {
            int d = depth;
            b.putStamp(2, 0, POST, 1, d);
            b.putStamp(2, 1, HOLE, 1, d);
            Check.due("depth " + depth, d, () -> b.stampGain(2, 0, 0, 0));
            b.setHeight(0, 0, 20);
            Check.due("depth " + depth, -d, () -> b.stampGain(2, 1, 0, 0));
            b.setHeight(0, 0, 0);
        }
        Check.argument("0", () -> b.putStamp(2, 0, POST, 1, 0));
        Check.argument("21", () -> b.putStamp(2, 0, POST, 1, 21));
    }

    @Sentence(of = "promise 55", says = "false, and nothing changes, if the rack does not take this kind")
    static void notTaken() {
        Whole.still("a post, rack 0, an empty place", false, b -> b.putStamp(0, 0, POST, 1, 1));
        Whole.still("a post, rack 0, where a hole is", false, b -> b.putStamp(0, 1, POST, 1, 1));
        Whole.still("a hole, rack 1, an empty place", false, b -> b.putStamp(1, 0, HOLE, 1, 1));
        Whole.still("a hole, rack 1, where a post is", false, b -> b.putStamp(1, 3, HOLE, 1, 1));
        Check.due("a hole, rack 0", true, () -> Whole.object().putStamp(0, 1, HOLE, 1, 1));
        Check.due("a post, rack 1", true, () -> Whole.object().putStamp(1, 3, POST, 1, 1));
    }

    @Sentence(of = "promise 55", says = "Throws IllegalArgumentException if kind, size or depth is out of range")
    static void wrongStamps() {
        for (int wrong : new int[] {-1, 2, Integer.MIN_VALUE, Integer.MAX_VALUE}) {
            Whole.argument("kind " + wrong, b -> b.putStamp(2, 0, wrong, 1, 1));
        }
        for (int wrong : new int[] {0, 7, -1, Integer.MIN_VALUE, Integer.MAX_VALUE}) {
            Whole.argument("size " + wrong, b -> b.putStamp(2, 0, HOLE, wrong, 1));
        }
        for (int wrong : new int[] {0, 21, -1, Integer.MIN_VALUE, Integer.MAX_VALUE}) {
            Whole.argument("depth " + wrong, b -> b.putStamp(2, 0, HOLE, 1, wrong));
        }
        Whole.argument("a rack that does not take it", b -> b.putStamp(0, 1, POST, 7, 1));
        Whole.argument("a rack that does not take it", b -> b.putStamp(1, 3, HOLE, 1, 21));
    }

    @Sentence(of = "promise 56", says = "@return whether there was one")
    static void take() {
        ReliefBuilder b = new ReliefBuilder();
        Check.due("none", false, () -> b.takeStamp(0, 0));
        b.putStamp(0, 0, HOLE, 1, 1);
        Check.due("not beside it", false, () -> b.takeStamp(0, 1));
        Check.due("one", true, () -> b.takeStamp(0, 0));
        Check.due("it is gone", -1, () -> b.stampAt(0, 0));
        Check.due("no more", false, () -> b.takeStamp(0, 0));
        Whole.still("an empty place", false, w -> w.takeStamp(2, 3));
    }

    @Sentence(of = "promise 57", says = "NONE if it is empty")
    static void stampAt() {
        ReliefBuilder b = new ReliefBuilder();
        Check.due("never used", -1, () -> b.stampAt(2, 3));
        b.putStamp(2, 3, HOLE, 1, 1);
        Check.due("the least", 101, () -> b.stampAt(2, 3));
        b.putStamp(2, 3, POST, 6, 20);
        Check.due("the greatest", 1620, () -> b.stampAt(2, 3));
        b.putStamp(2, 3, HOLE, 6, 20);
        Check.due("the greatest hole", 620, () -> b.stampAt(2, 3));
        b.takeStamp(2, 3);
        Check.due("taken", -1, () -> b.stampAt(2, 3));
        b.putStamp(2, 3, POST, 1, 9);
        b.moveStamp(2, 3, 2, 0);
        Check.due("moved away", -1, () -> b.stampAt(2, 3));
        Check.due("moved here", 1109, () -> b.stampAt(2, 0));
    }

    // ---- promise 58

    @Sentence(of = "promise 58",
            says = "Moves a stamp into another place, instead of one that is there; it may be the same")
    static void move() {
        Whole.still("the same place", true, b -> b.moveStamp(0, 1, 0, 1));
        Whole.still("the same place of rack 1", true, b -> b.moveStamp(1, 3, 1, 3));
        ReliefBuilder b = new ReliefBuilder();
        b.putStamp(2, 0, POST, 2, 3);
        b.putStamp(2, 3, HOLE, 4, 5);
        Check.due("instead of another one", true, () -> b.moveStamp(2, 0, 2, 3));
        Check.due("it is there", 1203, () -> b.stampAt(2, 3));
        Check.due("its place is empty", -1, () -> b.stampAt(2, 0));
        Check.due("into rack 1", true, () -> b.moveStamp(2, 3, 1, 0));
        Check.due("and back", true, () -> b.moveStamp(1, 0, 2, 1));
        Check.due("it is there", 1203, () -> b.stampAt(2, 1));
    }

    @Sentence(of = "promise 58", says = "false, and nothing changes, if the other rack does not take its kind")
    static void notMoved() {
        Whole.still("a post into rack 0", false, b -> b.moveStamp(1, 3, 0, 0));
        Whole.still("a post into rack 0, where a hole is", false, b -> b.moveStamp(2, 0, 0, 1));
        Whole.still("a hole into rack 1", false, b -> b.moveStamp(0, 1, 1, 0));
        Whole.still("a hole into rack 1, where a post is", false, b -> b.moveStamp(0, 1, 1, 3));
        Check.due("a hole into rack 2", true, () -> Whole.object().moveStamp(0, 1, 2, 3));
        Check.due("a post into rack 2", true, () -> Whole.object().moveStamp(1, 3, 2, 0));
        Check.due("a hole within rack 0", true, () -> Whole.object().moveStamp(0, 1, 0, 0));
        Check.due("a post into rack 1", true, () -> Whole.object().moveStamp(2, 0, 1, 3));
    }

    @Sentence(of = "promise 58", says = "Throws IndexOutOfBoundsException also if toRack or toPlace does not exist")
    static void wrongTarget() {
        for (int wrong : new int[] {-1, 3, Integer.MIN_VALUE, Integer.MAX_VALUE, 1 << 30}) {
            Whole.index("toRack " + wrong, b -> b.moveStamp(2, 0, wrong, 0));
            Whole.index("rack " + wrong, b -> b.moveStamp(wrong, 0, 2, 0));
        }
        for (int wrong : new int[] {-1, 4, Integer.MIN_VALUE, Integer.MAX_VALUE}) {
            Whole.index("toPlace " + wrong, b -> b.moveStamp(2, 0, 2, wrong));
            Whole.index("place " + wrong, b -> b.moveStamp(2, wrong, 2, 0));
        }
        Whole.index("a rack that does not take it", b -> b.moveStamp(2, 0, 0, 4));
        Check.due("the last place", true, () -> Whole.object().moveStamp(2, 0, 2, 3));
    }

    @Sentence(of = "promise 58", says = "Throws IllegalStateException if the first place is empty")
    static void nothingToMove() {
        Whole.state("onto a stamp", b -> b.moveStamp(2, 1, 2, 0));
        Whole.state("onto itself", b -> b.moveStamp(2, 1, 2, 1));
        Whole.state("into rack 0", b -> b.moveStamp(2, 1, 0, 1));
        Whole.state("into rack 1", b -> b.moveStamp(0, 0, 1, 1));
        ReliefBuilder b = new ReliefBuilder();
        b.putStamp(2, 0, HOLE, 1, 1);
        Check.due("once", true, () -> b.moveStamp(2, 0, 2, 1));
        Check.state("it is no longer there", () -> b.moveStamp(2, 0, 2, 1));
    }

    // ---- promises 59 and 60

    @Sentence(of = "promise 59", says = "Returns the number of cells whose height changed.")
    static void stampCount() {
        ReliefBuilder b = Check.heights("steps 9 glass 80 base 3;", "3 4 8 9");
        b.putStamp(0, 0, HOLE, 6, 1);
        b.putStamp(1, 0, POST, 6, 20);
        Check.due("the base stays", 3, () -> b.stamp(0, 0, 0, 0));
        Check.due("all", 4, () -> b.stamp(1, 0, 0, 0));
        Check.due("none", 0, () -> b.stamp(1, 0, 0, 0));
        Check.due("the last cell", 1, () -> b.stamp(0, 0, 3, 0));
        ReliefBuilder low = Check.relief("");
        low.putStamp(0, 0, HOLE, 6, 20);
        Check.due("none is higher than the base", 0, () -> low.stamp(0, 0, 0, 0));
        Check.due("nothing to undo", -1, low::undo);
    }

    @Sentence(of = "promise 59", says = "Throws IllegalStateException if the place is empty")
    static void noStamp() {
        Whole.state("an empty place", b -> b.stamp(2, 1, 0, 0));
        Whole.state("an empty place of rack 0", b -> b.stamp(0, 0, 2, 1));
        ReliefBuilder b = Whole.object();
        Check.due("a stamp", 1, () -> b.stamp(2, 0, 0, 0));
        Check.due("it stays there", 1, () -> b.stamp(2, 0, 0, 0));
        b.takeStamp(2, 0);
        Check.state("it was taken", () -> b.stamp(2, 0, 0, 0));
    }

    @Sentence(of = "promise 60", says = "Returns the volume behind stamp(), less the present one (nothing changes).")
    static void stampGain() {
        Whole.still("a post", 2, b -> b.stampGain(2, 0, 0, 0));
        Whole.still("a post that ends at the greatest height", 0, b -> b.stampGain(2, 0, 2, 1));
        Whole.still("a hole that ends at the base", -6, b -> b.stampGain(0, 1, 0, 0));
        ReliefBuilder b = Check.heights("steps 9 glass 80 base 3;", "3 4 8 9");
        b.putStamp(0, 0, HOLE, 6, 20);
        b.putStamp(1, 0, POST, 6, 20);
        b.putStamp(2, 0, POST, 1, 1);
        Check.due("down to the base", -12, () -> b.stampGain(0, 0, 0, 0));
        Check.due("up to the greatest height", 12, () -> b.stampGain(1, 0, 0, 0));
        Check.due("one cell by 1", 1, () -> b.stampGain(2, 0, 2, 0));
        Check.due("one cell by 0", 0, () -> b.stampGain(2, 0, 3, 0));
        Check.due("over the edge", -5 - 6, () -> b.stampGain(0, 0, 2, 0));
        b.stamp(0, 0, 0, 0);
        Check.due("as it was told", 12, b::volume);
    }

    @Sentence(of = "promise 60", says = "Throws IllegalStateException if the place is empty")
    static void noStampToTry() {
        Whole.state("an empty place", b -> b.stampGain(2, 1, 0, 0));
        Whole.state("an empty place of rack 1", b -> b.stampGain(1, 0, 2, 1));
        ReliefBuilder b = Whole.object();
        b.moveStamp(2, 0, 2, 1);
        Check.state("it was moved away", () -> b.stampGain(2, 0, 0, 0));
        Check.due("to here", 2, () -> b.stampGain(2, 1, 0, 0));
    }
}
