import java.util.LinkedHashMap;
import java.util.Map;

/** The paragraph behind section 8: which exception is thrown, what it changes, what x, y, rack, place, layer may be. */
final class CallBounds {
    private interface OfTwo {
        Object of(ReliefBuilder b, int first, int second);
    }

    private CallBounds() {
    }

    /** All methods that have an x and a y; the other arguments are right ones for each cell. */
    private static Map<String, OfTwo> callsOfCells() {
        Map<String, OfTwo> calls = new LinkedHashMap<>();
        calls.put("tone", (b, x, y) -> b.tone(x, y));
        calls.put("height", (b, x, y) -> b.height(x, y));
        calls.put("wanted", (b, x, y) -> b.wanted(x, y));
        calls.put("estimate", (b, x, y) -> b.estimate(x, y));
        calls.put("error", (b, x, y) -> b.error(x, y));
        calls.put("isThin", (b, x, y) -> b.isThin(x, y));
        calls.put("overhang", (b, x, y) -> b.overhang(x, y));
        calls.put("supportOf", (b, x, y) -> b.supportOf(x, y, 1));
        calls.put("rectangleAt", (b, x, y) -> b.rectangleAt(1, x, y));
        calls.put("setTone", (b, x, y) -> b.setTone(x, y, 7));
        calls.put("setHeight", (b, x, y) -> b.setHeight(x, y, 3));
        calls.put("fill", (b, x, y) -> b.fill(x, y, 1, 1, 3));
        calls.put("stamp", (b, x, y) -> b.stamp(2, 0, x, y));
        calls.put("stampGain", (b, x, y) -> b.stampGain(2, 0, x, y));
        return calls;
    }

    /** All methods that have a rack and a place. */
    private static Map<String, OfTwo> callsOfPlaces() {
        Map<String, OfTwo> calls = new LinkedHashMap<>();
        calls.put("putStamp", (b, rack, place) -> b.putStamp(rack, place, rack == 1 ? 1 : 0, 1, 1));
        calls.put("takeStamp", (b, rack, place) -> b.takeStamp(rack, place));
        calls.put("stampAt", (b, rack, place) -> b.stampAt(rack, place));
        calls.put("moveStamp", (b, rack, place) -> b.moveStamp(rack, place, 2, 3));
        calls.put("moveStamp to", (b, rack, place) -> b.moveStamp(rack == 0 ? 0 : 1, 0, rack, place));
        calls.put("stamp", (b, rack, place) -> b.stamp(rack, place, 0, 0));
        calls.put("stampGain", (b, rack, place) -> b.stampGain(rack, place, 0, 0));
        return calls;
    }

    private interface OfOne {
        Object of(ReliefBuilder b, int number);
    }

    private static Map<String, OfOne> callsOfLayers() {
        Map<String, OfOne> calls = new LinkedHashMap<>();
        calls.put("layerCells", (b, layer) -> b.layerCells(layer));
        calls.put("runs", (b, layer) -> b.runs(layer));
        calls.put("rectangles", (b, layer) -> b.rectangles(layer));
        calls.put("rectangle", (b, layer) -> b.rectangle(layer, 0, 0));
        calls.put("rectangleAt", (b, layer) -> b.rectangleAt(layer, 0, 0));
        calls.put("largest", (b, layer) -> b.largest(layer));
        calls.put("shortest", (b, layer) -> b.shortest(layer));
        calls.put("parts", (b, layer) -> b.parts(layer));
        calls.put("outline", (b, layer) -> b.outline(layer));
        calls.put("hollows", (b, layer) -> b.hollows(layer));
        return calls;
    }

    private static void answers(String what, Check.Call call) {
        Check.due(what + " answers", true, () -> call.answer() != null);
    }

    // ---- what the parameters may be

    @Sentence(of = "behind section 8", says = "The parameters x and y are those of a cell")
    static void cells() {
        for (int[] size : new int[][] {{1, 1}, {3, 2}, {16, 12}}) {
            int w = size[0];
            int h = size[1];
            int[][] inside = {{0, 0}, {w - 1, 0}, {0, h - 1}, {w - 1, h - 1}};
            int[][] outside = {{-1, 0}, {w, 0}, {0, -1}, {0, h}, {-1, -1}, {w, h}, {-1, h - 1}, {w, h - 1}, {w - 1, -1},
                {w - 1, h}, {16, 0}, {-16, h - 1}, {0, 12}, {Integer.MIN_VALUE, 0}, {Integer.MAX_VALUE, 0},
                {0, Integer.MIN_VALUE}, {0, Integer.MAX_VALUE}, {0, 1 << 28}, {1 << 30, 0}};
            callsOfCells().forEach((name, call) -> {
                ReliefBuilder b = Check.relief("panel " + w + " " + h + ";");
                b.putStamp(2, 0, 1, 1, 1);
                for (int[] cell : inside) {
                    answers(name + " " + cell[0] + " " + cell[1], () -> call.of(b, cell[0], cell[1]));
                }
                for (int[] cell : outside) {
                    Check.index(name + " " + cell[0] + " " + cell[1], () -> call.of(b, cell[0], cell[1]));
                }
            });
        }
    }

    @Sentence(of = "behind section 8",
            says = "rack and place of a place in a rack; otherwise IndexOutOfBoundsException is thrown")
    static void places() {
        int[][] inside = {{0, 0}, {0, 3}, {1, 0}, {1, 3}, {2, 0}, {2, 3}};
        int[][] outside = {{-1, 0}, {3, 0}, {0, -1}, {0, 4}, {1, -1}, {2, 4}, {-1, 4}, {3, 3}, {-1, -1}, {3, 4},
            {Integer.MIN_VALUE, 0}, {Integer.MAX_VALUE, 0}, {0, Integer.MIN_VALUE}, {0, Integer.MAX_VALUE},
            {1 << 30, 0}};
        callsOfPlaces().forEach((name, call) -> {
            for (int[] place : inside) {
                ReliefBuilder b = stamps();
                answers(name + " " + place[0] + " " + place[1], () -> call.of(b, place[0], place[1]));
            }
            for (int[] place : outside) {
                ReliefBuilder b = stamps();
                Check.index(name + " " + place[0] + " " + place[1], () -> call.of(b, place[0], place[1]));
            }
        });
    }

    private static ReliefBuilder stamps() {
        ReliefBuilder b = new ReliefBuilder();
        for (int rack = 0; rack < 3; rack++) {
            for (int place = 0; place < 4; place++) {
                b.putStamp(rack, place, rack == 1 ? 1 : 0, 1, 1);
            }
        }
        return b;
    }

    @Sentence(of = "behind section 8",
            says = "The parameter layer is 1 to the greatest height; otherwise IllegalArgumentException")
    static void layers() {
        for (int greatest : new int[] {1, 8, 20}) {
            callsOfLayers().forEach((name, call) -> {
                ReliefBuilder b = Check.relief("panel 2 2;steps " + greatest + " glass 80 base " + greatest + ";");
                answers(name + " 1", () -> call.of(b, 1));
                answers(name + " " + greatest, () -> call.of(b, greatest));
                for (int layer : new int[] {0, -1, greatest + 1, Integer.MIN_VALUE, Integer.MAX_VALUE}) {
                    Check.argument(name + " " + layer, () -> call.of(b, layer));
                }
            });
        }
    }

    // ---- which exception is thrown

    @Sentence(of = "behind section 8",
            says = "If several exceptions apply to a call, the one that is listed first is thrown.")
    static void firstListed() {
        Whole.index("31: the cell ahead of d", b -> b.supportOf(3, 0, 0));
        Whole.argument("31: d alone", b -> b.supportOf(2, 0, 0));
        Whole.argument("39: the layer ahead of the number", b -> b.rectangle(0, -1, 0));
        Whole.argument("39: what ahead of the number", b -> b.rectangle(1, -1, 4));
        Whole.index("39: the number alone", b -> b.rectangle(1, -1, 3));
        Whole.index("40: the cell ahead of the layer", b -> b.rectangleAt(0, 0, 2));
        Whole.argument("40: the layer alone", b -> b.rectangleAt(0, 0, 1));
        Whole.index("47: the cell ahead of the tone", b -> b.setTone(-1, 0, 256));
        Whole.argument("47: the tone alone", b -> b.setTone(0, 0, 256));
        Whole.index("48: the cell ahead of the height", b -> b.setHeight(0, -1, 10));
        Whole.argument("48: the height alone", b -> b.setHeight(0, 0, 10));
        Whole.index("49: the cell ahead of all others", b -> b.fill(3, 0, 0, 0, 0));
        Whole.argument("49: all others", b -> b.fill(2, 0, 0, 0, 0));
        Whole.index("55: the place ahead of the stamp", b -> b.putStamp(0, 4, 2, 0, 0));
        Whole.argument("55: the stamp alone", b -> b.putStamp(0, 3, 2, 0, 0));
        Whole.index("58: a place ahead of an empty one", b -> b.moveStamp(2, 1, 3, 0));
        Whole.index("58: a place ahead of an empty one", b -> b.moveStamp(2, 1, 2, -1));
        Whole.state("58: an empty one alone", b -> b.moveStamp(2, 1, 2, 0));
        Whole.index("59: the cell ahead of an empty place", b -> b.stamp(2, 1, 3, 0));
        Whole.index("59: the place ahead of all", b -> b.stamp(3, 1, 3, 0));
        Whole.state("59: an empty place alone", b -> b.stamp(2, 1, 2, 0));
        Whole.index("60: the cell ahead of an empty place", b -> b.stampGain(2, 1, 0, 2));
        Whole.state("60: an empty place alone", b -> b.stampGain(2, 1, 0, 1));
        Check.argument("65: the slot ahead of nothing saved", () -> new ReliefBuilder().restore(2));
        Check.state("65: nothing saved alone", () -> new ReliefBuilder().restore(1));
    }

    // ---- that it changes nothing

    @Sentence(of = "behind section 8",
            says = "A call that throws an exception changes nothing, unless something else is said.")
    static void changesNothing() {
        callsOfCells().forEach((name, call) -> {
            for (int[] cell : new int[][] {{-1, 0}, {3, 0}, {0, -1}, {0, 2}}) {
                Whole.index(name + " " + cell[0] + " " + cell[1], b -> call.of(b, cell[0], cell[1]));
            }
        });
        callsOfPlaces().forEach((name, call) -> {
            for (int[] place : new int[][] {{-1, 0}, {3, 0}, {0, -1}, {1, 4}, {2, 4}}) {
                Whole.index(name + " " + place[0] + " " + place[1], b -> call.of(b, place[0], place[1]));
            }
        });
        callsOfLayers().forEach((name, call) -> {
            Whole.argument(name + " 0", b -> call.of(b, 0));
            Whole.argument(name + " 10", b -> call.of(b, 10));
        });
        Whole.argument("truncate -1", b -> b.truncate(-1));
        Whole.argument("truncate 8 of 7", b -> b.truncate(8));
        Whole.argument("setting 7", b -> b.setting(7));
        Whole.argument("cellsOf 10", b -> b.cellsOf(10));
        Whole.argument("light 10", b -> b.light(10));
        Whole.argument("heightFor 256", b -> b.heightFor(256));
        Whole.argument("smooth 21", b -> b.smooth(21));
        Whole.argument("supportOf 5 of 4", b -> b.supportOf(0, 0, 5));
        Whole.argument("setTone 256", b -> b.setTone(0, 0, 256));
        Whole.argument("setHeight 10", b -> b.setHeight(0, 0, 10));
        Whole.argument("fill 4 of 3 columns", b -> b.fill(0, 0, 4, 2, 2));
        Whole.argument("fill 3 of 2 rows", b -> b.fill(0, 0, 3, 3, 2));
        Whole.argument("fill 10", b -> b.fill(0, 0, 3, 2, 10));
        Whole.argument("lighten 256", b -> b.lighten(256));
        Whole.argument("putStamp size 7", b -> b.putStamp(2, 0, 0, 7, 1));
        Whole.state("moveStamp from an empty place", b -> b.moveStamp(2, 1, 2, 0));
        Whole.state("stamp of an empty place", b -> b.stamp(2, 1, 0, 0));
        Whole.state("stampGain of an empty place", b -> b.stampGain(2, 1, 0, 0));
        Whole.index("reportByte 12", b -> b.reportByte(12));
        Whole.argument("save 2", b -> b.save(2));
        Whole.argument("restore 2", b -> b.restore(2));
        Whole.state("restore of nothing", b -> b.restore(1));
        fullBuffer();
    }

    /** feed() can only be refused when the buffer is nearly full. */
    private static void fullBuffer() {
        String want = Whole.all(nearlyFull());
        ReliefBuilder b = nearlyFull();
        Check.state("feed", () -> b.feed(-1, -1, -1, -1, -1));
        Check.due("feed changes nothing", want, () -> Whole.all(b));
        ReliefBuilder other = nearlyFull();
        Check.state("feed", () -> other.feed(-1, -1, -1, -1, -1));
        Check.argument("feed appends nothing", () -> other.truncate(888));
    }

    private static ReliefBuilder nearlyFull() {
        ReliefBuilder b = Whole.object();
        for (int n = 0; n < 44; n++) {
            b.feed(0x20202020, 0x20202020, 0x20202020, 0x20202020, 0x20202020);
        }
        return b;
    }
}
