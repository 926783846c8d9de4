import java.util.ArrayDeque;
import java.util.ArrayList;
import java.util.Arrays;
import java.util.Deque;
import java.util.HashMap;
import java.util.HashSet;
import java.util.List;
import java.util.Map;
import java.util.Set;

/**
 * The document once more, as slowly and plainly as it can be said, with all that the Java library has. ModelTest
 * compares the class with it. It shares no code and, where that is possible, no way of thinking with the class.
 */
public final class Model {
    private record Stamp(int kind, int size, int depth) {
    }

    private record Picture(int[][] tones, int[][] heights) {
        Picture copy() {
            return new Picture(deep(tones), deep(heights));
        }

        boolean same(Picture other) {
            return Arrays.deepEquals(tones, other.tones) && Arrays.deepEquals(heights, other.heights);
        }

        private static int[][] deep(int[][] rows) {
            int[][] copy = new int[rows.length][];
            for (int y = 0; y < rows.length; y++) {
                copy[y] = rows[y].clone();
            }
            return copy;
        }
    }

    private record Saved(int[][] heights, List<Integer> form) {
    }

    private record Token(String text, int at) {
    }

    private static final class TextError extends RuntimeException {
        private static final long serialVersionUID = 1L;
        final int code;
        final int at;

        TextError(int code, int at) {
            this.code = code;
            this.at = at;
        }
    }

    private static final class ScriptEnd extends RuntimeException {
        private static final long serialVersionUID = 1L;
    }

    private final StringBuilder buffer = new StringBuilder();
    private int[] settings;
    private Picture now;
    private final Map<Integer, Stamp> stamps = new HashMap<>();
    private final Deque<Picture> past = new ArrayDeque<>();
    private final Saved[] saved = new Saved[2];
    private String report = "";
    private int code;
    private int position = -1;
    private boolean inScript;
    private List<Token> tokens;
    private int token;
    private int commands;

    public Model() {
        readText();
    }

    private int width() {
        return settings[0];
    }

    private int rows() {
        return settings[1];
    }

    private int greatest() {
        return settings[2];
    }

    private int base() {
        return settings[4];
    }

    private static void index(boolean right) {
        if (!right) {
            throw new IndexOutOfBoundsException();
        }
    }

    private static void argument(boolean right) {
        if (!right) {
            throw new IllegalArgumentException();
        }
    }

    private static void state(boolean right) {
        if (!right) {
            throw new IllegalStateException();
        }
    }

    private boolean there(int x, int y) {
        return 0 <= x && x < width() && 0 <= y && y < rows();
    }

    private void layer(int layer) {
        argument(1 <= layer && layer <= greatest());
    }

    // ---- texts

    public int feed(int a, int b, int c, int d, int e) {
        state(buffer.length() + 20 <= 900);
        for (long four : new long[] {a, b, c, d, e}) {
            for (int shift = 24; shift >= 0; shift -= 8) {
                buffer.append((char) ((four >> shift) & 0xff));
            }
        }
        return buffer.length();
    }

    public int truncate(int n) {
        argument(n >= 0 && n <= buffer.length());
        buffer.setLength(n);
        return n;
    }

    private void cut() {
        String text = buffer.toString();
        buffer.setLength(0);
        tokens = new ArrayList<>();
        token = 0;
        code = 0;
        position = -1;
        var matcher = java.util.regex.Pattern.compile("[a-z]+|[0-9]+|[^ \n]", java.util.regex.Pattern.DOTALL).matcher(text);
        while (matcher.find()) {
            tokens.add(new Token(matcher.group(), matcher.start()));
        }
        tokens.add(new Token("", text.length()));
    }

    private Token next() {
        return tokens.get(token);
    }

    private void expect(String text) {
        if (!next().text.equals(text)) {
            throw new TextError(1, next().at);
        }
        token++;
    }

    private int number(int least, int most) {
        if (!next().text.matches("[0-9]{1,4}")) {
            throw new TextError(1, next().at);
        }
        int number = Integer.parseInt(next().text);
        if (number < least || number > most) {
            throw new TextError(2, next().at);
        }
        token++;
        return number;
    }

    public int readText() {
        cut();
        try {
            return readStatements();
        } catch (TextError e) {
            code = e.code;
            position = e.at;
            throw new IllegalArgumentException();
        }
    }

    private int readStatements() {
        int[] read = {4, 4, 8, 80, 1, 2, 1};
        List<int[]> told = new ArrayList<>();
        Set<String> words = new HashSet<>();
        int statements = 0;
        while (!next().text.isEmpty()) {
            String word = next().text;
            if (!Set.of("panel", "steps", "wall", "slope", "row").contains(word)) {
                throw new TextError(1, next().at);
            }
            if (!word.equals("row") && !words.add(word) || word.equals("panel") && !told.isEmpty()) {
                throw new TextError(3, next().at);
            }
            if (word.equals("row") && told.size() == read[1]) {
                throw new TextError(5, next().at);
            }
            token++;
            switch (word) {
                case "panel" -> {
                    read[0] = number(1, 16);
                    read[1] = number(1, 12);
                }
                case "steps" -> {
                    read[2] = number(1, 20);
                    expect("glass");
                    read[3] = number(10, 99);
                    expect("base");
                    read[4] = number(0, read[2]);
                }
                case "wall" -> read[5] = number(1, 4);
                case "slope" -> read[6] = number(0, 9);
                default -> {
                    int[] row = new int[read[0]];
                    for (int x = 0; x < row.length; x++) {
                        row[x] = number(0, 255);
                    }
                    told.add(row);
                }
            }
            expect(";");
            statements++;
        }
        settings = read;
        past.clear();
        now = new Picture(new int[rows()][width()], new int[rows()][width()]);
        for (int y = 0; y < rows(); y++) {
            for (int x = 0; x < width(); x++) {
                now.tones[y][x] = y < told.size() ? told.get(y)[x] : 255;
                now.heights[y][x] = heightFor(now.tones[y][x]);
            }
        }
        return statements;
    }

    public int runScript() {
        cut();
        List<Object> script;
        try {
            commands = 0;
            script = readCommands(0, "");
        } catch (TextError e) {
            code = e.code;
            position = e.at;
            throw new IllegalArgumentException();
        }
        Picture before = now.copy();
        inScript = true;
        commands = 0;
        try {
            run(script);
        } catch (ScriptEnd e) {
            // What was done stays.
        }
        inScript = false;
        keep(before);
        return commands;
    }

    /** A command is a list of its word, its numbers and, for "repeat", a list of commands. */
    private List<Object> readCommands(int depth, String end) {
        List<Object> list = new ArrayList<>();
        while (!next().text.equals(end)) {
            String word = next().text;
            int at = next().at;
            int count = switch (word) {
                case "tone", "height" -> 3;
                case "fill" -> 5;
                case "stamp" -> 4;
                case "smooth", "repeat" -> 1;
                case "repair", "ease", "dither", "polish", "invert", "mirror" -> 0;
                default -> throw new TextError(1, at);
            };
            if (word.equals("repeat") && depth == 2) {
                throw new TextError(3, at);
            }
            if (++commands > 30) {
                throw new TextError(5, at);
            }
            token++;
            List<Object> command = new ArrayList<>(List.of(word));
            for (int n = 0; n < count; n++) {
                command.add(number(word.equals("repeat") ? 1 : 0, word.equals("tone") && n == 2 ? 255 : 20));
            }
            if (word.equals("repeat")) {
                expect("(");
                command.add(readCommands(depth + 1, ")"));
                expect(")");
            }
            expect(";");
            list.add(command);
        }
        return list;
    }

    private void run(List<?> list) {
        for (Object object : list) {
            List<?> command = (List<?>) object;
            if (command.get(0).equals("repeat")) {
                for (int n = 0; n < (Integer) command.get(1); n++) {
                    run((List<?>) command.get(2));
                }
                continue;
            }
            if (commands == 60) {
                throw new ScriptEnd();
            }
            try {
                runCommand(command);
            } catch (IndexOutOfBoundsException | IllegalArgumentException | IllegalStateException e) {
                throw new ScriptEnd();
            }
            commands++;
        }
    }

    private void runCommand(List<?> command) {
        int[] n = new int[5];
        for (int i = 1; i < command.size(); i++) {
            n[i - 1] = (Integer) command.get(i);
        }
        switch ((String) command.get(0)) {
            case "tone" -> setTone(n[0], n[1], n[2]);
            case "height" -> setHeight(n[0], n[1], n[2]);
            case "fill" -> fill(n[0], n[1], n[2], n[3], n[4]);
            case "stamp" -> stamp(n[0], n[1], n[2], n[3]);
            case "smooth" -> smooth(n[0]);
            case "repair" -> repair();
            case "ease" -> ease();
            case "dither" -> dither();
            case "polish" -> polish();
            case "invert" -> invert();
            default -> mirror();
        }
    }

    public int errorCode() {
        return code;
    }

    public int errorPosition() {
        return position;
    }

    // ---- the panel

    public int setting(int what) {
        argument(what >= 0 && what < 7);
        return settings[what];
    }

    public int tone(int x, int y) {
        index(there(x, y));
        return now.tones[y][x];
    }

    public int height(int x, int y) {
        index(there(x, y));
        return now.heights[y][x];
    }

    public int volume() {
        return Arrays.stream(now.heights).flatMapToInt(Arrays::stream).sum();
    }

    public int cellsOf(int height) {
        argument(height >= 0 && height <= greatest());
        return (int) Arrays.stream(now.heights).flatMapToInt(Arrays::stream).filter(h -> h == height).count();
    }

    public int steepest() {
        int steepest = 0;
        for (int[] cell : cells()) {
            for (int[] other : neighbors(cell[0], cell[1])) {
                steepest = Math.max(steepest, now.heights[cell[1]][cell[0]] - now.heights[other[1]][other[0]]);
            }
        }
        return steepest;
    }

    private List<int[]> cells() {
        List<int[]> cells = new ArrayList<>();
        for (int y = 0; y < rows(); y++) {
            for (int x = 0; x < width(); x++) {
                cells.add(new int[] {x, y});
            }
        }
        return cells;
    }

    private List<int[]> neighbors(int x, int y) {
        List<int[]> neighbors = new ArrayList<>();
        for (int[] cell : new int[][] {{x - 1, y}, {x + 1, y}, {x, y - 1}, {x, y + 1}}) {
            if (there(cell[0], cell[1])) {
                neighbors.add(cell);
            }
        }
        return neighbors;
    }

    // ---- light

    public float light(int height) {
        argument(height >= 0 && height <= greatest());
        float light = 1.0f;
        for (int n = 0; n < height; n++) {
            light *= settings[3] / 100.0f;
        }
        return light;
    }

    private int nearest(float wanted) {
        int nearest = greatest();
        for (int h = greatest(); h >= base(); h--) {
            if (Math.abs(light(h) - wanted) <= Math.abs(light(nearest) - wanted)) {
                nearest = h;
            }
        }
        return nearest;
    }

    public int heightFor(int tone) {
        argument(tone >= 0 && tone <= 255);
        return nearest(tone / 255.0f);
    }

    public float wanted(int x, int y) {
        return tone(x, y) / 255.0f;
    }

    public float estimate(int x, int y) {
        float c = light(height(x, y));
        float[] others = new float[4];
        int n = 0;
        for (int[] cell : new int[][] {{x - 1, y}, {x + 1, y}, {x, y - 1}, {x, y + 1}}) {
            others[n++] = there(cell[0], cell[1]) ? light(height(cell[0], cell[1])) : c;
        }
        return ((((c * 4.0f + others[0]) + others[1]) + others[2]) + others[3]) / 8.0f;
    }

    public float error(int x, int y) {
        return estimate(x, y) - wanted(x, y);
    }

    public float meanError() {
        float sum = 0.0f;
        for (int[] cell : cells()) {
            sum += Math.abs(error(cell[0], cell[1]));
        }
        return sum / cells().size();
    }

    public int worstCell() {
        int[] worst = cells().get(0);
        for (int[] cell : cells()) {
            if (Math.abs(error(cell[0], cell[1])) > Math.abs(error(worst[0], worst[1]))) {
                worst = cell;
            }
        }
        return 16 * worst[1] + worst[0];
    }

    public int fingerprint() {
        int number = 17;
        for (int[] cell : cells()) {
            number = 31 * number + Float.floatToIntBits(estimate(cell[0], cell[1]));
        }
        return number;
    }

    public int brightest() {
        int[] best = cells().get(0);
        for (int[] cell : cells()) {
            if (estimate(cell[0], cell[1]) > estimate(best[0], best[1])) {
                best = cell;
            }
        }
        return 16 * best[1] + best[0];
    }

    public int darkestRow() {
        int darkest = 0;
        float least = Float.MAX_VALUE;
        for (int y = 0; y < rows(); y++) {
            float sum = 0.0f;
            for (int x = 0; x < width(); x++) {
                sum += estimate(x, y);
            }
            if (sum < least) {
                darkest = y;
                least = sum;
            }
        }
        return darkest;
    }

    public float contrast() {
        List<Float> estimates = new ArrayList<>();
        for (int[] cell : cells()) {
            estimates.add(estimate(cell[0], cell[1]));
        }
        estimates.sort(null);
        return estimates.get(estimates.size() - 1) - estimates.get(0);
    }

    // ---- walls

    public boolean isThin(int x, int y) {
        int h = height(x, y);
        if (h <= base()) {
            return false;
        }
        int left = x;
        int right = x;
        int below = y;
        int above = y;
        while (there(left - 1, y) && height(left - 1, y) >= h) {
            left--;
        }
        while (there(right + 1, y) && height(right + 1, y) >= h) {
            right++;
        }
        while (there(x, below - 1) && height(x, below - 1) >= h) {
            below--;
        }
        while (there(x, above + 1) && height(x, above + 1) >= h) {
            above++;
        }
        return right - left + 1 < settings[5] && above - below + 1 < settings[5];
    }

    public int thinCells() {
        return (int) cells().stream().filter(c -> isThin(c[0], c[1])).count();
    }

    public int repair() {
        Picture before = now.copy();
        int passes = 0;
        while (thinCells() > 0) {
            List<int[]> thin = cells().stream().filter(c -> isThin(c[0], c[1])).toList();
            for (int[] cell : thin) {
                now.heights[cell[1]][cell[0]]--;
            }
            passes++;
        }
        keep(before);
        return passes;
    }

    public int smooth(int limit) {
        argument(limit >= 1 && limit <= 20);
        Picture before = now.copy();
        for (int[] cell : cells()) {
            for (int[] other : cells()) {
                int d = Math.abs(cell[0] - other[0]) + Math.abs(cell[1] - other[1]);
                now.heights[cell[1]][cell[0]] =
                        Math.max(now.heights[cell[1]][cell[0]], before.heights[other[1]][other[0]] - limit * d);
            }
        }
        return keep(before);
    }

    public int repairLoss() {
        Picture before = now.copy();
        int volume = volume();
        boolean was = inScript;
        inScript = true;
        repair();
        inScript = was;
        int loss = volume - volume();
        now = before;
        return loss;
    }

    // ---- supports

    public int overhang(int x, int y) {
        index(there(x, y));
        return y == 0 ? 0 : Math.max(0, height(x, y) - (height(x, y - 1) + settings[6]));
    }

    public int supportOf(int x, int y, int d) {
        index(there(x, y));
        argument(d >= 1 && d <= height(x, y));
        boolean isTopmost = height(x, y) - d < overhang(x, y);
        int length = 0;
        for (int below = y - 1; isTopmost && below >= 0; below--) {
            if (height(x, below) >= d) {
                break;
            }
            length++;
        }
        return length;
    }

    public int supportedCells() {
        return (int) cells().stream().filter(c -> overhang(c[0], c[1]) > 0).count();
    }

    public int supportVolume() {
        int sum = 0;
        for (int[] cell : cells()) {
            for (int d = 1; d <= height(cell[0], cell[1]); d++) {
                sum += supportOf(cell[0], cell[1], d);
            }
        }
        return sum;
    }

    public int ease() {
        Picture before = now.copy();
        for (int[] cell : cells()) {
            if (overhang(cell[0], cell[1]) > 0) {
                now.heights[cell[1]][cell[0]] = now.heights[cell[1] - 1][cell[0]] + settings[6];
            }
        }
        return keep(before);
    }

    public int safeSlope() {
        int slope = settings[6];
        for (int least = 0; least <= 20; least++) {
            settings[6] = least;
            boolean isSafe = supportedCells() == 0;
            settings[6] = slope;
            if (isSafe) {
                return least;
            }
        }
        throw new AssertionError();
    }

    // ---- layers

    private boolean in(int layer, int x, int y) {
        return there(x, y) && now.heights[y][x] >= layer;
    }

    public int layerCells(int layer) {
        layer(layer);
        return (int) cells().stream().filter(c -> in(layer, c[0], c[1])).count();
    }

    /** The runs of a layer, each as x, y, width and 1. */
    private List<int[]> allRuns(int layer) {
        List<int[]> runs = new ArrayList<>();
        for (int y = 0; y < rows(); y++) {
            int begin = -1;
            for (int x = 0; x <= width(); x++) {
                if (in(layer, x, y) && begin < 0) {
                    begin = x;
                } else if (!in(layer, x, y) && begin >= 0) {
                    runs.add(new int[] {begin, y, x - begin, 1});
                    begin = -1;
                }
            }
        }
        return runs;
    }

    /** Each run is put on a rectangle that ends in the row below it, or else it is a new one. */
    private List<int[]> all(int layer) {
        layer(layer);
        List<int[]> rectangles = new ArrayList<>();
        for (int[] run : allRuns(layer)) {
            int[] fitting = null;
            for (int[] r : rectangles) {
                if (r[0] == run[0] && r[2] == run[2] && r[1] + r[3] == run[1]) {
                    fitting = r;
                }
            }
            if (fitting == null) {
                rectangles.add(run);
            } else {
                fitting[3]++;
            }
        }
        rectangles.sort((a, b) -> a[1] != b[1] ? a[1] - b[1] : a[0] - b[0]);
        return rectangles;
    }

    public int runs(int layer) {
        layer(layer);
        return allRuns(layer).size();
    }

    public int rectangles(int layer) {
        return all(layer).size();
    }

    public int rectangle(int layer, int i, int what) {
        layer(layer);
        argument(what >= 0 && what <= 3);
        index(i >= 0 && i < all(layer).size());
        return all(layer).get(i)[what];
    }

    public int rectangleAt(int layer, int x, int y) {
        index(there(x, y));
        List<int[]> rectangles = all(layer);
        for (int i = 0; i < rectangles.size(); i++) {
            int[] r = rectangles.get(i);
            if (x >= r[0] && x < r[0] + r[2] && y >= r[1] && y < r[1] + r[3]) {
                return i;
            }
        }
        return -1;
    }

    public int largest(int layer) {
        List<int[]> rectangles = all(layer);
        int best = -1;
        for (int i = 0; i < rectangles.size(); i++) {
            int[] r = rectangles.get(i);
            if (best < 0 || r[2] * r[3] > rectangles.get(best)[2] * rectangles.get(best)[3]) {
                best = i;
            }
        }
        return best;
    }

    public int shortest(int layer) {
        layer(layer);
        return allRuns(layer).stream().mapToInt(r -> r[2]).min().orElse(0);
    }

    private void spread(int[][] numbers, boolean[][] set, int x, int y, int number) {
        if (!there(x, y) || !set[y][x] || numbers[y][x] != 0) {
            return;
        }
        numbers[y][x] = number;
        for (int[] cell : neighbors(x, y)) {
            spread(numbers, set, cell[0], cell[1], number);
        }
    }

    /** The numbers of the groups; of those at the edge, too, if that is wished. */
    private int groups(boolean[][] set, boolean withEdge) {
        int[][] numbers = new int[rows()][width()];
        int count = 0;
        for (int[] cell : cells()) {
            if (set[cell[1]][cell[0]] && numbers[cell[1]][cell[0]] == 0) {
                count++;
                spread(numbers, set, cell[0], cell[1], count);
            }
        }
        Set<Integer> groups = new HashSet<>();
        for (int[] cell : cells()) {
            groups.add(numbers[cell[1]][cell[0]]);
        }
        for (int[] cell : cells()) {
            if (!withEdge && neighbors(cell[0], cell[1]).size() < 4) {
                groups.remove(numbers[cell[1]][cell[0]]);
            }
        }
        groups.remove(0);
        return groups.size();
    }

    private boolean[][] set(int layer, boolean isIn) {
        layer(layer);
        boolean[][] set = new boolean[rows()][width()];
        for (int[] cell : cells()) {
            set[cell[1]][cell[0]] = in(layer, cell[0], cell[1]) == isIn;
        }
        return set;
    }

    public int parts(int layer) {
        return groups(set(layer, true), true);
    }

    public int outline(int layer) {
        layer(layer);
        int sides = 4 * layerCells(layer);
        for (int[] cell : cells()) {
            for (int[] other : neighbors(cell[0], cell[1])) {
                sides -= in(layer, cell[0], cell[1]) && in(layer, other[0], other[1]) ? 1 : 0;
            }
        }
        return sides;
    }

    public int hollows(int layer) {
        return groups(set(layer, false), false);
    }

    public int allRectangles() {
        int sum = 0;
        for (int layer = greatest(); layer > 0; layer--) {
            sum += all(layer).size();
        }
        return sum;
    }

    // ---- changes

    /** Keeps the picture before a change if there was one, and answers how many heights changed. */
    private int keep(Picture before) {
        int changed = 0;
        for (int[] cell : cells()) {
            changed += before.heights[cell[1]][cell[0]] != now.heights[cell[1]][cell[0]] ? 1 : 0;
        }
        if (!inScript && !before.same(now)) {
            past.push(before);
            while (past.size() > 6) {
                past.removeLast();
            }
        }
        return changed;
    }

    public int setTone(int x, int y, int tone) {
        index(there(x, y));
        argument(tone >= 0 && tone <= 255);
        Picture before = now.copy();
        now.tones[y][x] = tone;
        now.heights[y][x] = heightFor(tone);
        keep(before);
        return heightFor(tone);
    }

    public int setHeight(int x, int y, int height) {
        index(there(x, y));
        argument(height >= base() && height <= greatest());
        Picture before = now.copy();
        now.heights[y][x] = height;
        keep(before);
        return before.heights[y][x];
    }

    public int fill(int x, int y, int width, int rows, int height) {
        index(there(x, y));
        argument(width >= 1 && rows >= 1 && (long) x + width <= width() && (long) y + rows <= rows());
        argument(height >= base() && height <= greatest());
        Picture before = now.copy();
        for (int[] cell : cells()) {
            if (cell[0] >= x && cell[0] < x + width && cell[1] >= y && cell[1] < y + rows) {
                now.heights[cell[1]][cell[0]] = height;
            }
        }
        return keep(before);
    }

    public int dither() {
        Picture before = now.copy();
        float left = 0.0f;
        for (int[] cell : cells()) {
            left = cell[0] == 0 ? 0.0f : left;
            float w = wanted(cell[0], cell[1]) + left;
            now.heights[cell[1]][cell[0]] = nearest(w);
            left = w - light(nearest(w));
        }
        return keep(before);
    }

    public int polish() {
        Picture before = now.copy();
        for (int[] cell : cells()) {
            int h = height(cell[0], cell[1]);
            Map<Integer, Float> sums = new HashMap<>();
            for (int other = h + 1; other >= h - 1; other--) {
                if (other >= base() && other <= greatest()) {
                    now.heights[cell[1]][cell[0]] = other;
                    float sum = 0.0f + Math.abs(error(cell[0], cell[1]));
                    for (int[] neighbor : neighbors(cell[0], cell[1])) {
                        sum += Math.abs(error(neighbor[0], neighbor[1]));
                    }
                    sums.put(other, sum);
                }
            }
            float least = sums.values().stream().min(Float::compare).orElseThrow();
            now.heights[cell[1]][cell[0]] =
                    sums.keySet().stream().filter(k -> sums.get(k) == least).min(Integer::compare).orElseThrow();
        }
        return keep(before);
    }

    private int toneAll(java.util.function.IntUnaryOperator tone) {
        Picture before = now.copy();
        for (int[] cell : cells()) {
            now.tones[cell[1]][cell[0]] = tone.applyAsInt(now.tones[cell[1]][cell[0]]);
            now.heights[cell[1]][cell[0]] = heightFor(now.tones[cell[1]][cell[0]]);
        }
        return keep(before);
    }

    public int invert() {
        return toneAll(t -> 255 - t);
    }

    public int lighten(int by) {
        argument(by >= -255 && by <= 255);
        return toneAll(t -> t + by < 0 ? 0 : t + by > 255 ? 255 : t + by);
    }

    public int mirror() {
        Picture before = now.copy();
        for (int[] cell : cells()) {
            int other = width() - 1 - cell[0];
            now.tones[cell[1]][cell[0]] = before.tones[cell[1]][other];
            now.heights[cell[1]][cell[0]] = before.heights[cell[1]][other];
        }
        return keep(before);
    }

    // ---- stamps

    private static int place(int rack, int place) {
        index(rack >= 0 && rack <= 2 && place >= 0 && place <= 3);
        return rack * 10 + place;
    }

    private static boolean takes(int rack, int kind) {
        return switch (rack) {
            case 0 -> kind == 0;
            case 1 -> kind == 1;
            default -> true;
        };
    }

    public boolean putStamp(int rack, int place, int kind, int size, int depth) {
        int at = place(rack, place);
        argument(kind >= 0 && kind <= 1);
        argument(size >= 1 && size <= 6);
        argument(depth >= 1 && depth <= 20);
        if (takes(rack, kind)) {
            stamps.put(at, new Stamp(kind, size, depth));
        }
        return takes(rack, kind);
    }

    public boolean takeStamp(int rack, int place) {
        return stamps.remove(place(rack, place)) != null;
    }

    public int stampAt(int rack, int place) {
        Stamp stamp = stamps.get(place(rack, place));
        return stamp == null ? -1 : stamp.kind * 1000 + stamp.size * 100 + stamp.depth;
    }

    public boolean moveStamp(int rack, int place, int toRack, int toPlace) {
        int from = place(rack, place);
        int to = place(toRack, toPlace);
        state(stamps.containsKey(from));
        if (!takes(toRack, stamps.get(from).kind)) {
            return false;
        }
        stamps.put(to, stamps.remove(from));
        return true;
    }

    public int stamp(int rack, int place, int x, int y) {
        int at = place(rack, place);
        index(there(x, y));
        state(stamps.containsKey(at));
        Stamp stamp = stamps.get(at);
        Picture before = now.copy();
        for (int[] cell : cells()) {
            int dx = cell[0] - x;
            int dy = cell[1] - y;
            if (dx >= 0 && dy >= 0 && dx < stamp.size && dy < stamp.size) {
                int h = now.heights[cell[1]][cell[0]];
                now.heights[cell[1]][cell[0]] = stamp.kind == 0 ? Math.max(base(), h - stamp.depth)
                        : Math.min(greatest(), h + stamp.depth);
            }
        }
        return keep(before);
    }

    public int stampGain(int rack, int place, int x, int y) {
        Picture before = now.copy();
        int volume = volume();
        boolean was = inScript;
        inScript = true;
        try {
            stamp(rack, place, x, y);
        } finally {
            inScript = was;
        }
        int gain = volume() - volume;
        now = before;
        return gain;
    }

    // ---- reports, undo, what is saved

    public int report() {
        StringBuilder text = new StringBuilder();
        for (int y = rows() - 1; y >= 0; y--) {
            String row = Arrays.toString(now.heights[y]);
            text.append(row.replaceAll("[\\[\\],]", "")).append('\n');
        }
        report = text.toString();
        return report.length();
    }

    public int reportByte(int i) {
        index(i >= 0 && i < report.length());
        return report.charAt(i);
    }

    public int undo() {
        if (past.isEmpty()) {
            return -1;
        }
        now = past.pop();
        return past.size();
    }

    private List<Integer> form() {
        return List.of(settings[0], settings[1], settings[2], settings[4]);
    }

    public int save(int slot) {
        argument(slot == 0 || slot == 1);
        saved[slot] = new Saved(now.copy().heights, form());
        return volume();
    }

    public int restore(int slot) {
        argument(slot == 0 || slot == 1);
        state(saved[slot] != null && saved[slot].form.equals(form()));
        Picture before = now.copy();
        now = new Picture(now.tones, new Picture(now.tones, saved[slot].heights).copy().heights);
        inScript = true;
        int changed = keep(before);
        inScript = false;
        past.clear();
        return changed;
    }
}
