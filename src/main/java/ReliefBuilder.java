import java.util.Arrays;

/**
 * A builder of reliefs through which light shines: tones of a picture become heights in steps, thin walls are
 * taken down, parts that stand out are supported, layers are merged into rectangles, and the light that comes
 * through is estimated with floats. Stamps from racks make holes and posts.
 */
public final class ReliefBuilder {
    public static final int NONE = -1;

    private static final int MOST_COLUMNS = 16;
    private static final int MOST_ROWS = 12;
    private static final int CELLS = MOST_COLUMNS * MOST_ROWS;
    private static final int MOST_STEPS = 20;
    private static final int WHITE = 255;
    private static final int FED_BYTES = 20;
    private static final int SLOTS = 2;
    private static final int REPORT_BYTES = MOST_ROWS * MOST_COLUMNS * 3;

    private final Panel panel;
    /** A draft of a new relief, or a copy on which a change is tried. */
    private final Panel spare;
    private final Panel[] saved;
    private final boolean[] isSaved;
    private final History history;
    private final Walls walls;
    private final Layers layers;
    private final Racks racks;
    private final Tokens tokens;
    private final ReliefText reliefText;
    private final Script script;
    private final byte[] reportBytes;
    private int reportLength;
    private int latestCode;
    private int latestPosition;

    public ReliefBuilder() {
        panel = new Panel();
        spare = new Panel();
        saved = new Panel[SLOTS];
        for (int slot = 0; slot < SLOTS; slot++) {
            saved[slot] = new Panel();
        }
        isSaved = new boolean[SLOTS];
        history = new History();
        walls = new Walls();
        layers = new Layers(panel);
        racks = new Racks();
        tokens = new Tokens();
        reliefText = new ReliefText(tokens, spare);
        script = new Script(tokens);
        reportBytes = new byte[REPORT_BYTES];
        latestPosition = NONE;
    }

    // ---- texts

    public int feed(int a, int b, int c, int d, int e) throws IllegalStateException {
        if (!tokens.hasRoomFor(FED_BYTES)) {
            throw new IllegalStateException();
        }
        tokens.append(a);
        tokens.append(b);
        tokens.append(c);
        tokens.append(d);
        tokens.append(e);
        return tokens.length;
    }

    public int truncate(int n) throws IllegalArgumentException {
        if (n < 0 || n > tokens.length) {
            throw new IllegalArgumentException();
        }
        tokens.length = n;
        return n;
    }

    public int readText() throws IllegalArgumentException {
        boolean isRight = reliefText.readDraft();
        endText();
        if (!isRight) {
            throw new IllegalArgumentException();
        }
        panel.copyFrom(spare);
        history.forget();
        return reliefText.statements;
    }

    public int runScript() throws IllegalArgumentException {
        boolean isRight = script.readAll();
        endText();
        if (!isRight) {
            throw new IllegalArgumentException();
        }
        history.open(panel);
        int done = 0;
        for (int n = 0; n < script.planned && tryCommand(script.plannedAt(n)); n++) {
            done++;
        }
        history.close(panel);
        return done;
    }

    private void endText() {
        latestCode = tokens.code;
        latestPosition = tokens.code == 0 ? NONE : tokens.start;
        tokens.length = 0;
    }

    public int errorCode() {
        return latestCode;
    }

    public int errorPosition() {
        return latestPosition;
    }

    /** Answers false, and changes nothing, if the method of this command would throw an exception. */
    private boolean tryCommand(int i) {
        Command command = script.commandAt(i);
        if (command == null) {
            return false;
        }
        int a = script.numberOf(i, 0);
        int b = script.numberOf(i, 1);
        int c = script.numberOf(i, 2);
        int d = script.numberOf(i, 3);
        switch (command) {
            case TONE:
                return tryTone(a, b, c);
            case HEIGHT:
                return tryFill(a, b, 1, 1, c);
            case FILL:
                return tryFill(a, b, c, d, script.numberOf(i, 4));
            case STAMP:
                return tryStamp(a, b, c, d);
            case SMOOTH:
                return trySmooth(a);
            case REPAIR:
                walls.takeDown(panel);
                return true;
            case EASE:
                Supports.settle(panel);
                return true;
            case DITHER:
                Glow.spread(panel);
                return true;
            case POLISH:
                Glow.refine(panel);
                return true;
            case INVERT:
                panel.negate();
                return true;
            case MIRROR:
                panel.turn();
                return true;
            default:
                return false;
        }
    }

    private boolean tryTone(int x, int y, int tone) {
        if (!panel.has(x, y) || !Panel.isTone(tone)) {
            return false;
        }
        panel.paint(x, y, tone);
        return true;
    }

    private boolean tryFill(int x, int y, int width, int rows, int height) {
        if (!panel.has(x, y) || !panel.fits(x, y, width, rows) || !panel.allows(height)) {
            return false;
        }
        panel.cover(x, y, width, rows, height);
        return true;
    }

    private boolean tryStamp(int rack, int place, int x, int y) {
        if (!Racks.hasPlace(rack, place) || !panel.has(x, y) || racks.at(rack, place) == NONE) {
            return false;
        }
        Racks.press(panel, racks.at(rack, place), x, y);
        return true;
    }

    private boolean trySmooth(int limit) {
        if (!Walls.isLimit(limit)) {
            return false;
        }
        Walls.flatten(panel, spare, limit);
        return true;
    }

    // ---- the panel

    public int setting(int what) throws IllegalArgumentException {
        switch (what) {
            case 0:
                return panel.width;
            case 1:
                return panel.rows;
            case 2:
                return panel.greatest;
            case 3:
                return panel.glass;
            case 4:
                return panel.base;
            case 5:
                return panel.wall;
            case 6:
                return panel.slope;
            default:
                throw new IllegalArgumentException();
        }
    }

    public int tone(int x, int y) throws IndexOutOfBoundsException {
        checkCell(x, y);
        return panel.toneAt(x, y);
    }

    public int height(int x, int y) throws IndexOutOfBoundsException {
        checkCell(x, y);
        return panel.heightAt(x, y);
    }

    public int volume() {
        return panel.sumOfHeights();
    }

    public int cellsOf(int height) throws IllegalArgumentException {
        checkStep(height);
        return panel.countOf(height);
    }

    public int steepest() {
        return panel.greatestStep();
    }

    private void checkCell(int x, int y) {
        if (!panel.has(x, y)) {
            throw new IndexOutOfBoundsException();
        }
    }

    private void checkStep(int height) {
        if (height < 0 || height > panel.greatest) {
            throw new IllegalArgumentException();
        }
    }

    private void checkTone(int tone) {
        if (!Panel.isTone(tone)) {
            throw new IllegalArgumentException();
        }
    }

    private void checkLayer(int layer) {
        if (layer < 1 || layer > panel.greatest) {
            throw new IllegalArgumentException();
        }
    }

    // ---- light

    public float light(int height) throws IllegalArgumentException {
        checkStep(height);
        return panel.lightOf(height);
    }

    public int heightFor(int tone) throws IllegalArgumentException {
        checkTone(tone);
        return panel.stepFor(Panel.wish(tone));
    }

    public float wanted(int x, int y) throws IndexOutOfBoundsException {
        checkCell(x, y);
        return panel.wishAt(x, y);
    }

    public float estimate(int x, int y) throws IndexOutOfBoundsException {
        checkCell(x, y);
        return Glow.glowAt(panel, x, y);
    }

    public float error(int x, int y) throws IndexOutOfBoundsException {
        checkCell(x, y);
        return Glow.missAt(panel, x, y);
    }

    public float meanError() {
        return Glow.meanMiss(panel);
    }

    public int worstCell() {
        return Glow.worst(panel);
    }

    public int fingerprint() {
        return Glow.hash(panel);
    }

    public int brightest() {
        return Glow.lightest(panel);
    }

    public int darkestRow() {
        return Glow.dimmestRow(panel);
    }

    public float contrast() {
        return Glow.span(panel);
    }

    // ---- walls

    public boolean isThin(int x, int y) throws IndexOutOfBoundsException {
        checkCell(x, y);
        return Walls.isNarrow(panel, x, y);
    }

    public int thinCells() {
        return walls.mark(panel);
    }

    public int repair() {
        history.open(panel);
        int passes = walls.takeDown(panel);
        history.close(panel);
        return passes;
    }

    public int smooth(int limit) throws IllegalArgumentException {
        if (!Walls.isLimit(limit)) {
            throw new IllegalArgumentException();
        }
        history.open(panel);
        int changed = Walls.flatten(panel, spare, limit);
        history.close(panel);
        return changed;
    }

    public int repairLoss() {
        spare.copyFrom(panel);
        walls.takeDown(spare);
        return panel.sumOfHeights() - spare.sumOfHeights();
    }

    // ---- supports

    public int overhang(int x, int y) throws IndexOutOfBoundsException {
        checkCell(x, y);
        return Supports.excess(panel, x, y);
    }

    public int supportOf(int x, int y, int d) throws IndexOutOfBoundsException, IllegalArgumentException {
        checkCell(x, y);
        if (d < 1 || d > panel.heightAt(x, y)) {
            throw new IllegalArgumentException();
        }
        return Supports.lengthOf(panel, x, y, d);
    }

    public int supportedCells() {
        return Supports.countOfCells(panel);
    }

    public int supportVolume() {
        return Supports.sumOfLengths(panel);
    }

    public int ease() {
        history.open(panel);
        int changed = Supports.settle(panel);
        history.close(panel);
        return changed;
    }

    public int safeSlope() {
        return Supports.leastSlope(panel);
    }

    // ---- layers

    public int layerCells(int layer) throws IllegalArgumentException {
        checkLayer(layer);
        return layers.countOfCells(layer);
    }

    public int runs(int layer) throws IllegalArgumentException {
        checkLayer(layer);
        return layers.countOfRuns(layer);
    }

    public int rectangles(int layer) throws IllegalArgumentException {
        checkLayer(layer);
        return layers.countOfBlocks(layer);
    }

    public int rectangle(int layer, int i, int what) throws IllegalArgumentException, IndexOutOfBoundsException {
        checkLayer(layer);
        if (what < 0 || what > 3) {
            throw new IllegalArgumentException();
        }
        int corner = layers.cornerOf(layer, i);
        if (corner == NONE) {
            throw new IndexOutOfBoundsException();
        }
        return layers.sizeOf(layer, corner, what);
    }

    public int rectangleAt(int layer, int x, int y) throws IndexOutOfBoundsException, IllegalArgumentException {
        checkCell(x, y);
        checkLayer(layer);
        return layers.blockAt(layer, x, y);
    }

    public int largest(int layer) throws IllegalArgumentException {
        checkLayer(layer);
        return layers.largestBlock(layer);
    }

    public int shortest(int layer) throws IllegalArgumentException {
        checkLayer(layer);
        return layers.shortestRun(layer);
    }

    public int parts(int layer) throws IllegalArgumentException {
        checkLayer(layer);
        return layers.countOfParts(layer);
    }

    public int outline(int layer) throws IllegalArgumentException {
        checkLayer(layer);
        return layers.countOfSides(layer);
    }

    public int hollows(int layer) throws IllegalArgumentException {
        checkLayer(layer);
        return layers.countOfHollows(layer);
    }

    public int allRectangles() {
        int sum = 0;
        for (int layer = 1; layer <= panel.greatest; layer++) {
            sum += layers.countOfBlocks(layer);
        }
        return sum;
    }

    // ---- changes

    public int setTone(int x, int y, int tone) throws IndexOutOfBoundsException, IllegalArgumentException {
        checkCell(x, y);
        checkTone(tone);
        history.open(panel);
        panel.paint(x, y, tone);
        history.close(panel);
        return panel.heightAt(x, y);
    }

    public int setHeight(int x, int y, int height) throws IndexOutOfBoundsException, IllegalArgumentException {
        checkCell(x, y);
        checkAllowed(height);
        int previous = panel.heightAt(x, y);
        history.open(panel);
        panel.build(x, y, height);
        history.close(panel);
        return previous;
    }

    public int fill(int x, int y, int width, int rows, int height)
            throws IndexOutOfBoundsException, IllegalArgumentException {
        checkCell(x, y);
        if (!panel.fits(x, y, width, rows)) {
            throw new IllegalArgumentException();
        }
        checkAllowed(height);
        history.open(panel);
        int changed = panel.cover(x, y, width, rows, height);
        history.close(panel);
        return changed;
    }

    private void checkAllowed(int height) {
        if (!panel.allows(height)) {
            throw new IllegalArgumentException();
        }
    }

    public int dither() {
        history.open(panel);
        int changed = Glow.spread(panel);
        history.close(panel);
        return changed;
    }

    public int polish() {
        history.open(panel);
        int changed = Glow.refine(panel);
        history.close(panel);
        return changed;
    }

    public int invert() {
        history.open(panel);
        int changed = panel.negate();
        history.close(panel);
        return changed;
    }

    public int lighten(int by) throws IllegalArgumentException {
        if (by < -WHITE || by > WHITE) {
            throw new IllegalArgumentException();
        }
        history.open(panel);
        int changed = panel.brighten(by);
        history.close(panel);
        return changed;
    }

    public int mirror() {
        history.open(panel);
        int changed = panel.turn();
        history.close(panel);
        return changed;
    }

    // ---- stamps

    public boolean putStamp(int rack, int place, int kind, int size, int depth)
            throws IndexOutOfBoundsException, IllegalArgumentException {
        checkPlace(rack, place);
        if (!Racks.isStamp(kind, size, depth)) {
            throw new IllegalArgumentException();
        }
        if (!Racks.takes(rack, kind)) {
            return false;
        }
        racks.put(rack, place, Racks.codeOf(kind, size, depth));
        return true;
    }

    public boolean takeStamp(int rack, int place) throws IndexOutOfBoundsException {
        checkPlace(rack, place);
        boolean wasThere = racks.at(rack, place) != NONE;
        racks.put(rack, place, NONE);
        return wasThere;
    }

    public int stampAt(int rack, int place) throws IndexOutOfBoundsException {
        checkPlace(rack, place);
        return racks.at(rack, place);
    }

    public boolean moveStamp(int rack, int place, int toRack, int toPlace)
            throws IndexOutOfBoundsException, IllegalStateException {
        checkPlace(rack, place);
        checkPlace(toRack, toPlace);
        checkStamp(rack, place);
        int code = racks.at(rack, place);
        if (!Racks.takes(toRack, Racks.kindOf(code))) {
            return false;
        }
        racks.put(rack, place, NONE);
        racks.put(toRack, toPlace, code);
        return true;
    }

    public int stamp(int rack, int place, int x, int y) throws IndexOutOfBoundsException, IllegalStateException {
        checkPlace(rack, place);
        checkCell(x, y);
        checkStamp(rack, place);
        history.open(panel);
        int changed = Racks.press(panel, racks.at(rack, place), x, y);
        history.close(panel);
        return changed;
    }

    public int stampGain(int rack, int place, int x, int y) throws IndexOutOfBoundsException, IllegalStateException {
        checkPlace(rack, place);
        checkCell(x, y);
        checkStamp(rack, place);
        spare.copyFrom(panel);
        Racks.press(spare, racks.at(rack, place), x, y);
        return spare.sumOfHeights() - panel.sumOfHeights();
    }

    private void checkPlace(int rack, int place) {
        if (!Racks.hasPlace(rack, place)) {
            throw new IndexOutOfBoundsException();
        }
    }

    private void checkStamp(int rack, int place) {
        if (racks.at(rack, place) == NONE) {
            throw new IllegalStateException();
        }
    }

    // ---- reports, undo, what is saved

    public int report() {
        reportLength = 0;
        for (int y = panel.rows - 1; y >= 0; y--) {
            for (int x = 0; x < panel.width; x++) {
                if (x > 0) {
                    writeByte(' ');
                }
                writeNumber(panel.heightAt(x, y));
            }
            writeByte('\n');
        }
        return reportLength;
    }

    private void writeNumber(int height) {
        if (height >= 10) {
            writeByte('0' + height / 10);
        }
        writeByte('0' + height % 10);
    }

    private void writeByte(int b) {
        if (reportLength < reportBytes.length) {
            reportBytes[reportLength] = (byte) b;
            reportLength++;
        }
    }

    public int reportByte(int i) throws IndexOutOfBoundsException {
        if (i < 0 || i >= reportLength) {
            throw new IndexOutOfBoundsException();
        }
        return reportBytes[i];
    }

    public int undo() {
        return history.takeBack(panel) ? history.count : NONE;
    }

    public int save(int slot) throws IllegalArgumentException {
        checkSlot(slot);
        saved[slot].copyFrom(panel);
        isSaved[slot] = true;
        return panel.sumOfHeights();
    }

    public int restore(int slot) throws IllegalArgumentException, IllegalStateException {
        checkSlot(slot);
        if (!isSaved[slot] || !panel.hasFormOf(saved[slot])) {
            throw new IllegalStateException();
        }
        int changed = panel.differencesTo(saved[slot]);
        panel.copyHeightsFrom(saved[slot]);
        history.forget();
        return changed;
    }

    private void checkSlot(int slot) {
        if (slot < 0 || slot >= SLOTS) {
            throw new IllegalArgumentException();
        }
    }

    /** The settings, tones and heights; the cell x, y stands at 16 * y + x, which worstCell() tells, too. */
    private static final class Panel {
        int width;
        int rows;
        int greatest;
        int glass;
        int base;
        int wall;
        int slope;
        final int[] tones = new int[CELLS];
        final int[] heights = new int[CELLS];
        final float[] lights = new float[MOST_STEPS + 1];

        Panel() {
            clear();
            develop();
        }

        void clear() {
            width = 4;
            rows = 4;
            greatest = 8;
            glass = 80;
            base = 1;
            wall = 2;
            slope = 1;
            Arrays.fill(tones, WHITE);
        }

        /** Makes the lights and the heights, when all settings and tones are known. */
        void develop() {
            float factor = glass / 100.0f;
            float light = 1.0f;
            for (int h = 0; h < lights.length; h++) {
                lights[h] = light;
                light = light * factor;
            }
            followTones();
        }

        void copyFrom(Panel other) {
            width = other.width;
            rows = other.rows;
            greatest = other.greatest;
            glass = other.glass;
            base = other.base;
            wall = other.wall;
            slope = other.slope;
            System.arraycopy(other.tones, 0, tones, 0, CELLS);
            System.arraycopy(other.lights, 0, lights, 0, MOST_STEPS + 1);
            copyHeightsFrom(other);
        }

        void copyHeightsFrom(Panel other) {
            System.arraycopy(other.heights, 0, heights, 0, CELLS);
        }

        /** Whether heights of the other panel may stand on this one. */
        boolean hasFormOf(Panel other) {
            return width == other.width && rows == other.rows && greatest == other.greatest && base == other.base;
        }

        boolean has(int x, int y) {
            return x >= 0 && x < width && y >= 0 && y < rows;
        }

        boolean fits(int x, int y, int columns, int lines) {
            return columns >= 1 && columns <= width - x && lines >= 1 && lines <= rows - y;
        }

        boolean allows(int height) {
            return height >= base && height <= greatest;
        }

        static boolean isTone(int tone) {
            return tone >= 0 && tone <= WHITE;
        }

        int toneAt(int x, int y) {
            return x >= 0 && x < width && y >= 0 && y < rows ? tones[y * MOST_COLUMNS + x] : WHITE;
        }

        /** Answers NONE, which is lower than each height, where no cell is. */
        int heightAt(int x, int y) {
            return x >= 0 && x < width && y >= 0 && y < rows ? heights[y * MOST_COLUMNS + x] : NONE;
        }

        boolean reaches(int x, int y, int height) {
            return x >= 0 && x < width && y >= 0 && y < rows && heights[y * MOST_COLUMNS + x] >= height;
        }

        /** The light of a cell; the other one where no cell is. */
        float lightAt(int x, int y, float other) {
            if (x < 0 || x >= width || y < 0 || y >= rows) {
                return other;
            }
            int height = heights[y * MOST_COLUMNS + x];
            return height >= 0 && height < lights.length ? lights[height] : other;
        }

        void dye(int x, int y, int tone) {
            if (has(x, y)) {
                tones[y * MOST_COLUMNS + x] = tone;
            }
        }

        /** Answers how many cells get another height by it: 1 or 0. */
        int build(int x, int y, int height) {
            if (!has(x, y) || heights[y * MOST_COLUMNS + x] == height) {
                return 0;
            }
            heights[y * MOST_COLUMNS + x] = height;
            return 1;
        }

        float lightOf(int height) {
            return height >= 0 && height < lights.length ? lights[height] : 0.0f;
        }

        static float wish(int tone) {
            return tone / 255.0f;
        }

        float wishAt(int x, int y) {
            return wish(toneAt(x, y));
        }

        int stepFor(float wish) {
            int best = base;
            float least = distance(lightOf(base), wish);
            for (int h = base + 1; h <= greatest; h++) {
                float distance = distance(lightOf(h), wish);
                if (distance < least) {
                    least = distance;
                    best = h;
                }
            }
            return best;
        }

        private static float distance(float a, float b) {
            return a < b ? b - a : a - b;
        }

        void paint(int x, int y, int tone) {
            dye(x, y, tone);
            build(x, y, stepFor(wish(tone)));
        }

        int followTones() {
            int changed = 0;
            for (int y = 0; y < rows; y++) {
                for (int x = 0; x < width; x++) {
                    changed += build(x, y, stepFor(wishAt(x, y)));
                }
            }
            return changed;
        }

        int cover(int x, int y, int columns, int lines, int height) {
            int changed = 0;
            for (int i = 0; i < lines; i++) {
                for (int j = 0; j < columns; j++) {
                    changed += build(x + j, y + i, height);
                }
            }
            return changed;
        }

        int negate() {
            for (int y = 0; y < rows; y++) {
                for (int x = 0; x < width; x++) {
                    dye(x, y, WHITE - toneAt(x, y));
                }
            }
            return followTones();
        }

        int brighten(int by) {
            for (int y = 0; y < rows; y++) {
                for (int x = 0; x < width; x++) {
                    dye(x, y, Math.max(0, Math.min(WHITE, toneAt(x, y) + by)));
                }
            }
            return followTones();
        }

        int turn() {
            int changed = 0;
            for (int y = 0; y < rows; y++) {
                for (int x = 0; x < width / 2; x++) {
                    changed += exchange(x, width - 1 - x, y);
                }
            }
            return changed;
        }

        private int exchange(int left, int right, int y) {
            int tone = toneAt(left, y);
            int height = heightAt(left, y);
            dye(left, y, toneAt(right, y));
            dye(right, y, tone);
            return build(left, y, heightAt(right, y)) + build(right, y, height);
        }

        int sumOfHeights() {
            int sum = 0;
            for (int y = 0; y < rows; y++) {
                for (int x = 0; x < width; x++) {
                    sum += heightAt(x, y);
                }
            }
            return sum;
        }

        int countOf(int height) {
            int count = 0;
            for (int y = 0; y < rows; y++) {
                for (int x = 0; x < width; x++) {
                    if (heightAt(x, y) == height) {
                        count++;
                    }
                }
            }
            return count;
        }

        int greatestStep() {
            int greatestSoFar = 0;
            for (int y = 0; y < rows; y++) {
                for (int x = 0; x < width; x++) {
                    int stepRight = has(x + 1, y) ? Math.abs(heightAt(x, y) - heightAt(x + 1, y)) : 0;
                    int stepUp = has(x, y + 1) ? Math.abs(heightAt(x, y) - heightAt(x, y + 1)) : 0;
                    greatestSoFar = Math.max(greatestSoFar, Math.max(stepRight, stepUp));
                }
            }
            return greatestSoFar;
        }

        int differencesTo(Panel other) {
            int count = 0;
            for (int y = 0; y < rows; y++) {
                for (int x = 0; x < width; x++) {
                    if (heightAt(x, y) != other.heightAt(x, y)) {
                        count++;
                    }
                }
            }
            return count;
        }

        boolean looksLike(Panel other) {
            for (int y = 0; y < rows; y++) {
                for (int x = 0; x < width; x++) {
                    if (heightAt(x, y) != other.heightAt(x, y) || toneAt(x, y) != other.toneAt(x, y)) {
                        return false;
                    }
                }
            }
            return true;
        }
    }

    /** The light that comes through a panel. */
    private static final class Glow {
        private static final int MANTISSA_BITS = 23;
        private static final int EXPONENT_OF_ONE = 127;

        static float glowAt(Panel panel, int x, int y) {
            float own = panel.lightAt(x, y, 0.0f);
            float sum = own * 4.0f;
            sum = sum + panel.lightAt(x - 1, y, own);
            sum = sum + panel.lightAt(x + 1, y, own);
            sum = sum + panel.lightAt(x, y - 1, own);
            sum = sum + panel.lightAt(x, y + 1, own);
            return sum / 8.0f;
        }

        static float missAt(Panel panel, int x, int y) {
            return glowAt(panel, x, y) - panel.wishAt(x, y);
        }

        /** The absolute value of the error of a cell; 0 where no cell is. */
        private static float sizeOfMiss(Panel panel, int x, int y) {
            if (!panel.has(x, y)) {
                return 0.0f;
            }
            float miss = glowAt(panel, x, y) - panel.wishAt(x, y);
            return miss < 0.0f ? -miss : miss;
        }

        static float meanMiss(Panel panel) {
            float sum = 0.0f;
            for (int y = 0; y < panel.rows; y++) {
                for (int x = 0; x < panel.width; x++) {
                    sum = sum + sizeOfMiss(panel, x, y);
                }
            }
            int cells = panel.width * panel.rows;
            return cells > 0 ? sum / cells : 0.0f;
        }

        static int worst(Panel panel) {
            int cell = 0;
            float greatest = sizeOfMiss(panel, 0, 0);
            for (int y = 0; y < panel.rows; y++) {
                for (int x = 0; x < panel.width; x++) {
                    float size = sizeOfMiss(panel, x, y);
                    if (size > greatest) {
                        greatest = size;
                        cell = y * MOST_COLUMNS + x;
                    }
                }
            }
            return cell;
        }

        static int hash(Panel panel) {
            int hash = 17;
            for (int y = 0; y < panel.rows; y++) {
                for (int x = 0; x < panel.width; x++) {
                    hash = hash * 31 + bitsOf(glowAt(panel, x, y));
                }
            }
            return hash;
        }

        /**
         * The bits of a float, which the library of this language does not tell. An estimate lies between the
         * light of 20 steps of 10 percent and 1, so that it is a normal float, and doubling it is exact.
         */
        private static int bitsOf(float estimate) {
            float mantissa = estimate;
            int exponent = EXPONENT_OF_ONE;
            for (int n = 0; n < EXPONENT_OF_ONE && mantissa < 1.0f; n++) {
                mantissa = mantissa * 2.0f;
                exponent--;
            }
            return (exponent << MANTISSA_BITS) + (int) ((mantissa - 1.0f) * (1 << MANTISSA_BITS));
        }

        static int lightest(Panel panel) {
            int cell = 0;
            float greatest = glowAt(panel, 0, 0);
            for (int y = 0; y < panel.rows; y++) {
                for (int x = 0; x < panel.width; x++) {
                    float glow = glowAt(panel, x, y);
                    if (glow > greatest) {
                        greatest = glow;
                        cell = y * MOST_COLUMNS + x;
                    }
                }
            }
            return cell;
        }

        static int dimmestRow(Panel panel) {
            int row = 0;
            float least = sumOfRow(panel, 0);
            for (int y = 1; y < panel.rows; y++) {
                float sum = sumOfRow(panel, y);
                if (sum < least) {
                    least = sum;
                    row = y;
                }
            }
            return row;
        }

        private static float sumOfRow(Panel panel, int y) {
            float sum = 0.0f;
            for (int x = 0; x < panel.width; x++) {
                sum = sum + glowAt(panel, x, y);
            }
            return sum;
        }

        static float span(Panel panel) {
            float greatest = glowAt(panel, 0, 0);
            float least = greatest;
            for (int y = 0; y < panel.rows; y++) {
                for (int x = 0; x < panel.width; x++) {
                    float glow = glowAt(panel, x, y);
                    greatest = glow > greatest ? glow : greatest;
                    least = glow < least ? glow : least;
                }
            }
            return greatest - least;
        }

        static int spread(Panel panel) {
            int changed = 0;
            for (int y = 0; y < panel.rows; y++) {
                float leftOver = 0.0f;
                for (int x = 0; x < panel.width; x++) {
                    float wish = panel.wishAt(x, y) + leftOver;
                    int height = panel.stepFor(wish);
                    changed += panel.build(x, y, height);
                    leftOver = wish - panel.lightOf(height);
                }
            }
            return changed;
        }

        static int refine(Panel panel) {
            int changed = 0;
            for (int y = 0; y < panel.rows; y++) {
                for (int x = 0; x < panel.width; x++) {
                    changed += refineCell(panel, x, y);
                }
            }
            return changed;
        }

        private static int refineCell(Panel panel, int x, int y) {
            int before = panel.heightAt(x, y);
            int lowest = Math.max(before - 1, panel.base);
            int highest = Math.min(before + 1, panel.greatest);
            int best = lowest;
            float least = 0.0f;
            for (int h = lowest; h <= highest; h++) {
                panel.build(x, y, h);
                float sum = 0.0f;
                sum = sum + sizeOfMiss(panel, x, y);
                sum = sum + sizeOfMiss(panel, x - 1, y);
                sum = sum + sizeOfMiss(panel, x + 1, y);
                sum = sum + sizeOfMiss(panel, x, y - 1);
                sum = sum + sizeOfMiss(panel, x, y + 1);
                if (h == lowest || sum < least) {
                    least = sum;
                    best = h;
                }
            }
            panel.build(x, y, best);
            return best == before ? 0 : 1;
        }
    }

    /** What is thin or steep. */
    private static final class Walls {
        private final boolean[] marks = new boolean[CELLS];

        static boolean isNarrow(Panel panel, int x, int y) {
            return panel.heightAt(x, y) > panel.base
                    && runThrough(panel, x, y, 1, 0) < panel.wall
                    && runThrough(panel, x, y, 0, 1) < panel.wall;
        }

        /** Answers the length of the run of a cell, but not more than about twice the least width of a wall. */
        private static int runThrough(Panel panel, int x, int y, int dx, int dy) {
            int height = panel.heightAt(x, y);
            int length = 1;
            for (int n = 1; n < panel.wall && panel.reaches(x + n * dx, y + n * dy, height); n++) {
                length++;
            }
            for (int n = 1; n < panel.wall && panel.reaches(x - n * dx, y - n * dy, height); n++) {
                length++;
            }
            return length;
        }

        /** Marks the thin cells and answers how many there are. */
        int mark(Panel panel) {
            int count = 0;
            for (int y = 0; y < panel.rows; y++) {
                for (int x = 0; x < panel.width; x++) {
                    boolean isNarrow = isNarrow(panel, x, y);
                    setMark(x, y, isNarrow);
                    count += isNarrow ? 1 : 0;
                }
            }
            return count;
        }

        private void setMark(int x, int y, boolean mark) {
            int cell = y * MOST_COLUMNS + x;
            if (cell >= 0 && cell < marks.length) {
                marks[cell] = mark;
            }
        }

        private boolean hasMark(int x, int y) {
            int cell = y * MOST_COLUMNS + x;
            return cell >= 0 && cell < marks.length && marks[cell];
        }

        private void lowerMarked(Panel panel) {
            for (int y = 0; y < panel.rows; y++) {
                for (int x = 0; x < panel.width; x++) {
                    if (hasMark(x, y)) {
                        panel.build(x, y, panel.heightAt(x, y) - 1);
                    }
                }
            }
        }

        int takeDown(Panel panel) {
            int passes = 0;
            // Each pass takes a unit at least, and no more than these can stand.
            for (int n = 0; n < CELLS * MOST_STEPS && mark(panel) > 0; n++) {
                lowerMarked(panel);
                passes++;
            }
            return passes;
        }

        static boolean isLimit(int limit) {
            return limit >= 1 && limit <= MOST_STEPS;
        }

        /**
         * From every cell to every other one a shortest way goes right and up first, or not at all, and left and
         * down behind that, or not at all: so one round each carries every height to all cells.
         */
        static int flatten(Panel panel, Panel before, int limit) {
            before.copyFrom(panel);
            for (int y = 0; y < panel.rows; y++) {
                for (int x = 0; x < panel.width; x++) {
                    raiseBeside(panel, x, y, x - 1, y, limit);
                    raiseBeside(panel, x, y, x, y - 1, limit);
                }
            }
            for (int y = panel.rows - 1; y >= 0; y--) {
                for (int x = panel.width - 1; x >= 0; x--) {
                    raiseBeside(panel, x, y, x + 1, y, limit);
                    raiseBeside(panel, x, y, x, y + 1, limit);
                }
            }
            return panel.differencesTo(before);
        }

        private static void raiseBeside(Panel panel, int x, int y, int besideX, int besideY, int limit) {
            if (panel.has(besideX, besideY)) {
                int least = panel.heightAt(besideX, besideY) - limit;
                panel.build(x, y, Math.max(panel.heightAt(x, y), least));
            }
        }
    }

    /** What stands out over the cell below it. */
    private static final class Supports {
        static int excess(Panel panel, int x, int y) {
            if (y <= 0) {
                return 0;
            }
            return Math.max(0, panel.heightAt(x, y) - (panel.heightAt(x, y - 1) + panel.slope));
        }

        static int lengthOf(Panel panel, int x, int y, int d) {
            if (d <= panel.heightAt(x, y) - excess(panel, x, y)) {
                return 0;
            }
            int length = 0;
            for (int below = y - 1; below >= 0 && panel.heightAt(x, below) < d; below--) {
                length++;
            }
            return length;
        }

        static int countOfCells(Panel panel) {
            int count = 0;
            for (int y = 1; y < panel.rows; y++) {
                for (int x = 0; x < panel.width; x++) {
                    count += excess(panel, x, y) > 0 ? 1 : 0;
                }
            }
            return count;
        }

        static int sumOfLengths(Panel panel) {
            int sum = 0;
            for (int y = 1; y < panel.rows; y++) {
                for (int x = 0; x < panel.width; x++) {
                    sum += sumOfCell(panel, x, y);
                }
            }
            return sum;
        }

        private static int sumOfCell(Panel panel, int x, int y) {
            int sum = 0;
            int height = panel.heightAt(x, y);
            for (int d = height - excess(panel, x, y) + 1; d <= height; d++) {
                sum += lengthOf(panel, x, y, d);
            }
            return sum;
        }

        static int settle(Panel panel) {
            int changed = 0;
            for (int y = 1; y < panel.rows; y++) {
                for (int x = 0; x < panel.width; x++) {
                    changed += panel.build(x, y, panel.heightAt(x, y) - excess(panel, x, y));
                }
            }
            return changed;
        }

        static int leastSlope(Panel panel) {
            int slope = 0;
            for (int y = 1; y < panel.rows; y++) {
                for (int x = 0; x < panel.width; x++) {
                    slope = Math.max(slope, panel.heightAt(x, y) - panel.heightAt(x, y - 1));
                }
            }
            return slope;
        }
    }

    /**
     * The layers of a panel. A block is a rectangle; its corner is 16 * y + x of its lowest left cell. Blocks are
     * numbered in the order in which their corners are met row by row, so that none need be kept.
     */
    private static final class Layers {
        private final Panel panel;
        private final int[] queue = new int[CELLS];
        private final boolean[] isQueued = new boolean[CELLS];
        private int queued;

        Layers(Panel panel) {
            this.panel = panel;
        }

        int countOfCells(int layer) {
            int count = 0;
            for (int y = 0; y < panel.rows; y++) {
                for (int x = 0; x < panel.width; x++) {
                    count += panel.reaches(x, y, layer) ? 1 : 0;
                }
            }
            return count;
        }

        private boolean beginsRun(int layer, int x, int y) {
            return panel.reaches(x, y, layer) && !panel.reaches(x - 1, y, layer);
        }

        private int runFrom(int layer, int x, int y) {
            int end = x;
            for (int n = 0; n < MOST_COLUMNS && panel.reaches(end, y, layer); n++) {
                end++;
            }
            return end - x;
        }

        int countOfRuns(int layer) {
            int count = 0;
            for (int y = 0; y < panel.rows; y++) {
                for (int x = 0; x < panel.width; x++) {
                    count += beginsRun(layer, x, y) ? 1 : 0;
                }
            }
            return count;
        }

        int shortestRun(int layer) {
            int shortest = 0;
            for (int y = 0; y < panel.rows; y++) {
                for (int x = 0; x < panel.width; x++) {
                    if (beginsRun(layer, x, y)) {
                        int length = runFrom(layer, x, y);
                        shortest = shortest == 0 ? length : Math.min(shortest, length);
                    }
                }
            }
            return shortest;
        }

        private boolean isRun(int layer, int x, int y, int length) {
            return beginsRun(layer, x, y) && runFrom(layer, x, y) == length;
        }

        private boolean beginsBlock(int layer, int x, int y) {
            return beginsRun(layer, x, y) && !isRun(layer, x, y - 1, runFrom(layer, x, y));
        }

        private int rowsFrom(int layer, int x, int y) {
            int length = runFrom(layer, x, y);
            int count = 0;
            for (int row = y; row < panel.rows && isRun(layer, x, row, length); row++) {
                count++;
            }
            return count;
        }

        int countOfBlocks(int layer) {
            return blocksAhead(layer, panel.width, panel.rows - 1);
        }

        /** The number of blocks whose corners come ahead of a cell, row by row. */
        private int blocksAhead(int layer, int endX, int endY) {
            int count = 0;
            for (int y = 0; y <= endY; y++) {
                int end = y < endY ? panel.width : endX;
                for (int x = 0; x < end; x++) {
                    count += beginsBlock(layer, x, y) ? 1 : 0;
                }
            }
            return count;
        }

        int cornerOf(int layer, int number) {
            int count = 0;
            for (int y = 0; y < panel.rows; y++) {
                for (int x = 0; x < panel.width; x++) {
                    if (!beginsBlock(layer, x, y)) {
                        continue;
                    }
                    if (count == number) {
                        return y * MOST_COLUMNS + x;
                    }
                    count++;
                }
            }
            return NONE;
        }

        int sizeOf(int layer, int corner, int what) {
            int x = corner % MOST_COLUMNS;
            int y = corner / MOST_COLUMNS;
            switch (what) {
                case 0:
                    return x;
                case 1:
                    return y;
                case 2:
                    return runFrom(layer, x, y);
                default:
                    return rowsFrom(layer, x, y);
            }
        }

        int blockAt(int layer, int x, int y) {
            if (!panel.reaches(x, y, layer)) {
                return NONE;
            }
            int left = x;
            for (int n = 0; n < MOST_COLUMNS && panel.reaches(left - 1, y, layer); n++) {
                left--;
            }
            int length = runFrom(layer, left, y);
            int lowest = y;
            for (int n = 0; n < MOST_ROWS && isRun(layer, left, lowest - 1, length); n++) {
                lowest--;
            }
            return blocksAhead(layer, left, lowest);
        }

        int largestBlock(int layer) {
            int best = NONE;
            int most = 0;
            int number = 0;
            for (int y = 0; y < panel.rows; y++) {
                for (int x = 0; x < panel.width; x++) {
                    if (!beginsBlock(layer, x, y)) {
                        continue;
                    }
                    int cells = runFrom(layer, x, y) * rowsFrom(layer, x, y);
                    if (cells > most) {
                        most = cells;
                        best = number;
                    }
                    number++;
                }
            }
            return best;
        }

        int countOfSides(int layer) {
            int count = 0;
            for (int y = 0; y < panel.rows; y++) {
                for (int x = 0; x < panel.width; x++) {
                    count += panel.reaches(x, y, layer) ? freeSides(layer, x, y) : 0;
                }
            }
            return count;
        }

        private int freeSides(int layer, int x, int y) {
            int left = panel.reaches(x - 1, y, layer) ? 0 : 1;
            int right = panel.reaches(x + 1, y, layer) ? 0 : 1;
            int below = panel.reaches(x, y - 1, layer) ? 0 : 1;
            int above = panel.reaches(x, y + 1, layer) ? 0 : 1;
            return left + right + below + above;
        }

        int countOfParts(int layer) {
            return countOfGroups(layer, true);
        }

        int countOfHollows(int layer) {
            return countOfGroups(layer, false);
        }

        /** Groups of cells that are in the layer, or groups of others of which none is at the edge. */
        private int countOfGroups(int layer, boolean inLayer) {
            for (int i = 0; i < isQueued.length; i++) {
                isQueued[i] = false;
            }
            int count = 0;
            for (int y = 0; y < panel.rows; y++) {
                for (int x = 0; x < panel.width; x++) {
                    if (panel.reaches(x, y, layer) == inLayer && !wasQueued(x, y)) {
                        boolean atEdge = visitGroup(layer, x, y, inLayer);
                        count += inLayer || !atEdge ? 1 : 0;
                    }
                }
            }
            return count;
        }

        /** Answers whether a cell of the group is at the edge. */
        private boolean visitGroup(int layer, int x, int y, boolean inLayer) {
            boolean atEdge = false;
            queued = 0;
            visit(layer, x, y, inLayer);
            for (int i = 0; i < queued && i < queue.length; i++) {
                int cellX = queue[i] % MOST_COLUMNS;
                int cellY = queue[i] / MOST_COLUMNS;
                atEdge = atEdge || isAtEdge(cellX, cellY);
                visit(layer, cellX - 1, cellY, inLayer);
                visit(layer, cellX + 1, cellY, inLayer);
                visit(layer, cellX, cellY - 1, inLayer);
                visit(layer, cellX, cellY + 1, inLayer);
            }
            return atEdge;
        }

        private void visit(int layer, int x, int y, boolean inLayer) {
            if (!panel.has(x, y) || panel.reaches(x, y, layer) != inLayer || wasQueued(x, y)) {
                return;
            }
            int cell = y * MOST_COLUMNS + x;
            if (queued >= 0 && queued < queue.length && cell >= 0 && cell < isQueued.length) {
                isQueued[cell] = true;
                queue[queued] = cell;
                queued++;
            }
        }

        private boolean wasQueued(int x, int y) {
            int cell = y * MOST_COLUMNS + x;
            return cell >= 0 && cell < isQueued.length && isQueued[cell];
        }

        private boolean isAtEdge(int x, int y) {
            return x == 0 || y == 0 || x == panel.width - 1 || y == panel.rows - 1;
        }
    }

    /** The racks with their stamps, each kept as the number that stampAt() tells. */
    private static final class Racks {
        private static final int RACKS = 3;
        private static final int PLACES = 4;
        private static final int BOTH_KINDS = 2;
        private static final int HOLE = 0;
        private static final int POST = 1;
        private static final int MOST_SIZE = 6;

        private final int[] codes = new int[RACKS * PLACES];

        Racks() {
            Arrays.fill(codes, NONE);
        }

        static boolean hasPlace(int rack, int place) {
            return rack >= 0 && rack < RACKS && place >= 0 && place < PLACES;
        }

        static boolean isStamp(int kind, int size, int depth) {
            return (kind == HOLE || kind == POST) && size >= 1 && size <= MOST_SIZE && depth >= 1
                    && depth <= MOST_STEPS;
        }

        /** Rack 0 takes kind 0 and rack 1 takes kind 1. */
        static boolean takes(int rack, int kind) {
            return rack == BOTH_KINDS || rack == kind;
        }

        static int codeOf(int kind, int size, int depth) {
            return kind * 1000 + size * 100 + depth;
        }

        static int kindOf(int code) {
            return code / 1000;
        }

        int at(int rack, int place) {
            return hasPlace(rack, place) ? codes[rack * PLACES + place] : NONE;
        }

        void put(int rack, int place, int code) {
            if (hasPlace(rack, place)) {
                codes[rack * PLACES + place] = code;
            }
        }

        static int press(Panel panel, int code, int x, int y) {
            int size = code / 100 % 10;
            int by = kindOf(code) == POST ? code % 100 : -(code % 100);
            int changed = 0;
            for (int i = 0; i < size; i++) {
                for (int j = 0; j < size; j++) {
                    int height = panel.heightAt(x + j, y + i) + by;
                    int allowed = Math.max(panel.base, Math.min(panel.greatest, height));
                    changed += panel.build(x + j, y + i, allowed);
                }
            }
            return changed;
        }
    }

    /** Panels as they were before calls that can be undone. */
    private static final class History {
        private static final int KEPT = 6;
        /** One more than are kept: a call that changes nothing must not cost the oldest one. */
        private static final int PANELS = KEPT + 1;

        private final Panel[] panels = new Panel[PANELS];
        private int next;
        int count;

        History() {
            for (int i = 0; i < PANELS; i++) {
                panels[i] = new Panel();
            }
        }

        void open(Panel panel) {
            if (next >= 0 && next < PANELS) {
                panels[next].copyFrom(panel);
            }
        }

        void close(Panel panel) {
            if (next >= 0 && next < PANELS && !panel.looksLike(panels[next])) {
                next = (next + 1) % PANELS;
                count = Math.min(count + 1, KEPT);
            }
        }

        boolean takeBack(Panel panel) {
            int latest = (next + KEPT) % PANELS;
            if (count < 1 || latest < 0) {
                return false;
            }
            panel.copyFrom(panels[latest]);
            next = latest;
            count--;
            return true;
        }

        void forget() {
            count = 0;
        }
    }

    /** The buffer and, while it is read, its tokens, the present one and the code of the first error. */
    private static final class Tokens {
        static final int MOST_BYTES = 900;
        static final int NOT_ALLOWED = 1;
        static final int OUT_OF_RANGE = 2;

        private static final int END = 0;
        private static final int WORD = 1;
        private static final int NUMBER = 2;
        private static final int SIGN = 3;
        private static final int BLANK = 4;
        private static final int INVALID = 5;
        private static final int MOST_LETTERS = 8;
        private static final int MOST_DIGITS = 4;

        private final byte[] bytes = new byte[MOST_BYTES];
        private final int[] starts = new int[MOST_BYTES];
        private final int[] sizes = new int[MOST_BYTES];
        private final int[] kinds = new int[MOST_BYTES];
        int length;
        private int count;
        private int present;
        private int kind;
        /** Of the present token, which stays there when it is an error. */
        int start;
        private int size;
        int code;

        boolean hasRoomFor(int more) {
            return length + more <= MOST_BYTES;
        }

        void append(int four) {
            appendByte(four >>> 24);
            appendByte(four >>> 16);
            appendByte(four >>> 8);
            appendByte(four);
        }

        private void appendByte(int b) {
            if (length >= 0 && length < MOST_BYTES) {
                bytes[length] = (byte) b;
                length++;
            }
        }

        private int byteAt(int i) {
            return i >= 0 && i < length && i < MOST_BYTES ? bytes[i] : NONE;
        }

        /** Cuts the text into tokens. A wrong one is an error only when it is the present one. */
        void begin() {
            code = 0;
            count = 0;
            int previous = BLANK;
            for (int i = 0; i < length; i++) {
                int next = kindOf(byteAt(i));
                if (next == previous && (next == WORD || next == NUMBER)) {
                    lengthenToken();
                } else if (next != BLANK) {
                    addToken(i, next);
                }
                previous = next;
            }
            present = -1;
            advance();
        }

        private static int kindOf(int b) {
            if (b == ' ' || b == '\n') {
                return BLANK;
            }
            if (b >= 'a' && b <= 'z') {
                return WORD;
            }
            if (b >= '0' && b <= '9') {
                return NUMBER;
            }
            return b == ';' || b == '(' || b == ')' ? SIGN : INVALID;
        }

        private void addToken(int from, int tokenKind) {
            if (count >= 0 && count < kinds.length) {
                starts[count] = from;
                sizes[count] = 1;
                kinds[count] = tokenKind;
                count++;
            }
        }

        private void lengthenToken() {
            int latest = count - 1;
            if (latest >= 0 && latest < kinds.length) {
                sizes[latest]++;
            }
        }

        void advance() {
            present++;
            if (present < 0 || present >= count || present >= kinds.length) {
                start = length;
                size = 0;
                kind = END;
                return;
            }
            start = starts[present];
            size = sizes[present];
            kind = kinds[present];
            if (kind == WORD && size > MOST_LETTERS || kind == NUMBER && size > MOST_DIGITS) {
                kind = INVALID;
            }
        }

        boolean isAtEnd() {
            return kind == END;
        }

        boolean isWord(String word) {
            if (kind != WORD || size != word.length()) {
                return false;
            }
            for (int i = 0; i < word.length(); i++) {
                if (byteAt(start + i) != word.charAt(i)) {
                    return false;
                }
            }
            return true;
        }

        boolean isSign(char sign) {
            return kind == SIGN && byteAt(start) == sign;
        }

        /** Tells an error at the present token; the answer, false, is for the caller to hand on. */
        boolean fail(int errorCode) {
            code = errorCode;
            return false;
        }

        boolean takeWord(String word) {
            if (!isWord(word)) {
                return fail(NOT_ALLOWED);
            }
            advance();
            return true;
        }

        boolean takeSign(char sign) {
            if (!isSign(sign)) {
                return fail(NOT_ALLOWED);
            }
            advance();
            return true;
        }

        /** Answers NONE if there is an error. */
        int takeNumber(int least, int most) {
            if (kind != NUMBER) {
                code = NOT_ALLOWED;
                return NONE;
            }
            int number = 0;
            for (int i = 0; i < size; i++) {
                number = number * 10 + (byteAt(start + i) - '0');
            }
            if (number < least || number > most) {
                code = OUT_OF_RANGE;
                return NONE;
            }
            advance();
            return number;
        }
    }

    /** Reads the grammar of a relief into a draft, which is no more than that until the whole text is right. */
    private static final class ReliefText {
        private static final int TOLD_TWICE = 3;
        private static final int TOO_MANY_ROWS = 5;
        private static final int MOST_WALL = 4;
        private static final int MOST_SLOPE = 9;

        private final Tokens tokens;
        private final Panel draft;
        private boolean hasPanel;
        private boolean hasSteps;
        private boolean hasWall;
        private boolean hasSlope;
        private int rowsTold;
        int statements;

        ReliefText(Tokens tokens, Panel draft) {
            this.tokens = tokens;
            this.draft = draft;
        }

        /** Answers false if the text has an error. */
        boolean readDraft() {
            draft.clear();
            hasPanel = false;
            hasSteps = false;
            hasWall = false;
            hasSlope = false;
            rowsTold = 0;
            statements = 0;
            tokens.begin();
            for (int n = 0; n < Tokens.MOST_BYTES && !tokens.isAtEnd(); n++) {
                if (!readStatement() || !tokens.takeSign(';')) {
                    return false;
                }
                statements++;
            }
            draft.develop();
            return true;
        }

        private boolean readStatement() {
            if (tokens.isWord("panel")) {
                return readPanel();
            }
            if (tokens.isWord("steps")) {
                return readSteps();
            }
            if (tokens.isWord("wall")) {
                return readWall();
            }
            if (tokens.isWord("slope")) {
                return readSlope();
            }
            if (tokens.isWord("row")) {
                return readRow();
            }
            return tokens.fail(Tokens.NOT_ALLOWED);
        }

        private boolean readPanel() {
            if (hasPanel || rowsTold > 0) {
                return tokens.fail(TOLD_TWICE);
            }
            hasPanel = true;
            tokens.advance();
            draft.width = tokens.takeNumber(1, MOST_COLUMNS);
            if (draft.width == NONE) {
                return false;
            }
            draft.rows = tokens.takeNumber(1, MOST_ROWS);
            return draft.rows != NONE;
        }

        private boolean readSteps() {
            if (hasSteps) {
                return tokens.fail(TOLD_TWICE);
            }
            hasSteps = true;
            tokens.advance();
            draft.greatest = tokens.takeNumber(1, MOST_STEPS);
            if (draft.greatest == NONE || !tokens.takeWord("glass")) {
                return false;
            }
            draft.glass = tokens.takeNumber(10, 99);
            if (draft.glass == NONE || !tokens.takeWord("base")) {
                return false;
            }
            draft.base = tokens.takeNumber(0, draft.greatest);
            return draft.base != NONE;
        }

        private boolean readWall() {
            if (hasWall) {
                return tokens.fail(TOLD_TWICE);
            }
            hasWall = true;
            tokens.advance();
            draft.wall = tokens.takeNumber(1, MOST_WALL);
            return draft.wall != NONE;
        }

        private boolean readSlope() {
            if (hasSlope) {
                return tokens.fail(TOLD_TWICE);
            }
            hasSlope = true;
            tokens.advance();
            draft.slope = tokens.takeNumber(0, MOST_SLOPE);
            return draft.slope != NONE;
        }

        private boolean readRow() {
            if (rowsTold >= draft.rows) {
                return tokens.fail(TOO_MANY_ROWS);
            }
            tokens.advance();
            for (int x = 0; x < draft.width; x++) {
                int tone = tokens.takeNumber(0, WHITE);
                if (tone == NONE) {
                    return false;
                }
                draft.dye(x, rowsTold, tone);
            }
            rowsTold++;
            return true;
        }
    }

    private enum Command {
        TONE("tone", 3),
        HEIGHT("height", 3),
        FILL("fill", 5),
        STAMP("stamp", 4),
        SMOOTH("smooth", 1),
        REPAIR("repair", 0),
        EASE("ease", 0),
        DITHER("dither", 0),
        POLISH("polish", 0),
        INVERT("invert", 0),
        MIRROR("mirror", 0),
        REPEAT("repeat", 1);

        final String word;
        final int numbers;

        Command(String word, int numbers) {
            this.word = word;
            this.numbers = numbers;
        }
    }

    /**
     * Reads the grammar of a script, keeps its commands in the order of the text, and plans in which order they
     * are to be done.
     */
    private static final class Script {
        private static final int MOST_DEPTH = 2;
        private static final int MOST_DONE = 60;
        private static final int TOO_DEEP = 3;
        private static final int TOO_MANY_COMMANDS = 5;
        private static final int MOST_COMMANDS = 30;
        private static final int MOST_NUMBERS = 5;
        private static final int MOST_VALUE = 20;
        private static final Command[] COMMANDS = Command.values();

        private final Tokens tokens;
        private final Command[] commands = new Command[MOST_COMMANDS];
        private final int[] numbers = new int[MOST_COMMANDS * MOST_NUMBERS];
        private final int[] ends = new int[MOST_COMMANDS];
        private final int[] plan = new int[MOST_DONE];
        private int count;
        int planned;

        Script(Tokens tokens) {
            this.tokens = tokens;
        }

        private static boolean isIndex(int i) {
            return i >= 0 && i < MOST_COMMANDS;
        }

        Command commandAt(int i) {
            return isIndex(i) ? commands[i] : null;
        }

        int numberOf(int i, int which) {
            return isIndex(i) && which >= 0 && which < MOST_NUMBERS ? numbers[i * MOST_NUMBERS + which] : 0;
        }

        /** Answers false if the text has an error. */
        boolean readAll() {
            count = 0;
            planned = 0;
            tokens.begin();
            if (!readCommands(0)) {
                return false;
            }
            planCommands(0, count, 0);
            return true;
        }

        int plannedAt(int n) {
            return n >= 0 && n < planned && n < MOST_DONE ? plan[n] : NONE;
        }

        /** A "repeat" never looks at the panel, so that the order is known ahead of the first command. */
        private void planCommands(int from, int to, int depth) {
            int next = from;
            for (int i = from; i < to && isIndex(i); i++) {
                if (i < next) {
                    continue;
                }
                next = ends[i];
                if (commands[i] == Command.REPEAT) {
                    planRepeat(i, depth);
                } else if (planned >= 0 && planned < MOST_DONE) {
                    plan[planned] = i;
                    planned++;
                }
            }
        }

        private void planRepeat(int i, int depth) {
            if (!isIndex(i) || depth >= MOST_DEPTH) {
                return;
            }
            int times = numberOf(i, 0);
            for (int n = 0; n < times && planned < MOST_DONE; n++) {
                planCommands(i + 1, ends[i], depth + 1);
            }
        }

        private boolean readCommands(int depth) {
            for (int n = 0; n < Tokens.MOST_BYTES; n++) {
                boolean isAtEnd = depth == 0 ? tokens.isAtEnd() : tokens.isSign(')');
                if (isAtEnd) {
                    return true;
                }
                if (!readCommand(depth)) {
                    return false;
                }
            }
            return tokens.fail(Tokens.NOT_ALLOWED);
        }

        private boolean readCommand(int depth) {
            Command command = presentCommand();
            if (command == null) {
                return tokens.fail(Tokens.NOT_ALLOWED);
            }
            if (command == Command.REPEAT && depth >= MOST_DEPTH) {
                return tokens.fail(TOO_DEEP);
            }
            if (!isIndex(count)) {
                return tokens.fail(TOO_MANY_COMMANDS);
            }
            int i = count;
            count++;
            commands[i] = command;
            tokens.advance();
            if (!readNumbers(command, i)) {
                return false;
            }
            boolean isRight = command != Command.REPEAT
                    || tokens.takeSign('(') && readCommands(depth + 1) && tokens.takeSign(')');
            ends[i] = count;
            return isRight && tokens.takeSign(';');
        }

        private Command presentCommand() {
            for (int i = 0; i < COMMANDS.length; i++) {
                if (tokens.isWord(COMMANDS[i].word)) {
                    return COMMANDS[i];
                }
            }
            return null;
        }

        private boolean readNumbers(Command command, int i) {
            int least = command == Command.REPEAT ? 1 : 0;
            for (int n = 0; n < command.numbers && n < MOST_NUMBERS; n++) {
                int most = command == Command.TONE && n == 2 ? WHITE : MOST_VALUE;
                int number = tokens.takeNumber(least, most);
                if (number == NONE) {
                    return false;
                }
                numbers[i * MOST_NUMBERS + n] = number;
            }
            return true;
        }
    }
}
