import java.util.Arrays;

/** A driven plate of cells, the sand on it, and the figure that its still cells are held against. */
public final class SandPlates {
    public static final int BAD = -1, STATE = -2, FULL = -3, NONE = -9;

    private static final int BAD_HEIGHT = -1000000;
    private static final int FAULT_AT_0 = -10;

    private static final int LEAST_SIDE = 2;
    private static final int MOST_SIDE = 6;
    private static final int MOST_CELLS = 36;
    private static final int MOST_LETTERS = 120;
    private static final int MOST_STEPS = 60;
    private static final int MOST_SHAKES_AT_ONCE = 20;
    private static final int MOST_SHAKES_TRIED = 99;
    private static final int MOST_UNDONE = 6;
    private static final int MOST_SEEN = 6;
    private static final int IMAGES = 2;
    private static final int LEAST_PERIOD = 2;
    private static final int MOST_PERIOD = 20;

    /** Places in a plate's numbers; the first six are what sets() calls them, too. */
    private static final int EDGE = 0, STIFF = 1, LOSS = 2, FORCE = 3, PERIOD = 4, LIMIT = 5, DRIVER = 6;
    private static final int SETTINGS = 6;
    private static final int NUMBERS = 7;
    private static final int[] AT_FIRST = {1, 4, 8, 40, 8, 10, 0};
    private static final int[] LEAST = {0, 1, 2, 1, 2, 0};
    private static final int[] MOST = {1, 7, 20, 99, 20, 99};

    /** Up, right, down, left: the order in which a shake chooses among equals. */
    private static final int[] STEP_X = {0, 1, 0, -1};
    private static final int[] STEP_Y = {-1, 0, 1, 0};

    private final Plate plate = new Plate();
    private final History history = new History();
    private final Plate[] images = new Plate[IMAGES];
    private final boolean[] isKept = new boolean[IMAGES];
    private final Teller teller = new Teller();
    private final Motions motions = new Motions();
    private final Sand sand = new Sand();
    private final Seen seen = new Seen();
    private final int[] stillBy = new int[MOST_CELLS];

    public SandPlates() {
        for (int image = 0; image < IMAGES; image++) {
            images[image] = new Plate();
        }
    }

    // ---- what is told

    public int type(int letter) {
        if (letter < 0 || letter > 255) {
            return BAD;
        }
        return teller.text.add(letter) ? teller.text.length : FULL;
    }

    public int clear() {
        int had = teller.text.length;
        teller.text.length = 0;
        return had;
    }

    public int tells() {
        int items = teller.readAll();
        if (items < 0) {
            return items;
        }
        history.record(plate);
        plate.takeFrom(teller.plate);
        teller.text.length = 0;
        return items;
    }

    // ---- what is done

    public int shakes(int n) {
        if (n < 1 || n > MOST_SHAKES_AT_ONCE) {
            return BAD;
        }
        sand.takeFrom(plate);
        int[] motion = motionNow();
        int moved = 0;
        for (int shake = 0; shake < n; shake++) {
            moved += sand.shakeOnce(plate, motion);
        }
        if (moved == 0) {
            return STATE;
        }
        history.record(plate);
        sand.layOn(plate);
        return moved;
    }

    public int sets(int what, int n) {
        if (what < 0 || what >= SETTINGS || n < LEAST[what] || n > MOST[what]) {
            return BAD;
        }
        return change(what, n);
    }

    public int drives(int x, int y) {
        int driver = plate.cellAt(x, y);
        return driver < 0 ? BAD : change(DRIVER, driver);
    }

    public int draws(int x, int y, int is) {
        int at = plate.cellAt(x, y);
        if (at < 0 || is < 0 || is > 1) {
            return BAD;
        }
        if (plate.figure[at] == is) {
            return STATE;
        }
        history.record(plate);
        plate.figure[at] = is;
        return plate.cellsOfFigure();
    }

    public int sands() {
        int others = plate.cells() - plate.cellsWithGrains(1);
        if (others == 0) {
            return STATE;
        }
        history.record(plate);
        plate.layGrains();
        return others;
    }

    public int undo() {
        return history.takeBack(plate) ? history.known : STATE;
    }

    // ---- asked

    public int cell(int x, int y, int what) {
        int at = plate.cellAt(x, y);
        if (at < 0) {
            return BAD;
        }
        switch (what) {
            case 0: return motionNow()[at];
            case 1: return plate.isStill(motionNow(), at) ? 1 : 0;
            case 2: return plate.grains[at];
            case 3: return plate.figure[at];
            default: return BAD;
        }
    }

    public int setting(int what) {
        return what < 0 || what >= NUMBERS ? BAD : plate.numbers[what];
    }

    public int height(int x, int y, int n) {
        int at = plate.cellAt(x, y);
        if (at < 0 || n < 0 || n > MOST_STEPS) {
            return BAD_HEIGHT;
        }
        return motions.heightBehind(plate, at, n);
    }

    // ---- still cells, the figure

    public int still(int what) {
        switch (what) {
            case 0: return plate.stillCells(motionNow());
            case 1: return plate.likeness(motionNow());
            case 2: return plate.apart(motionNow());
            default: return BAD;
        }
    }

    public int best(int what) {
        if (what < 0 || what > 1) {
            return BAD;
        }
        int bestPeriod = LEAST_PERIOD;
        int greatest = -1;
        for (int period = LEAST_PERIOD; period <= MOST_PERIOD; period++) {
            int likeness = plate.likeness(motions.by(plate, period));
            if (likeness > greatest) {
                greatest = likeness;
                bestPeriod = period;
            }
        }
        return what == 0 ? bestPeriod : greatest;
    }

    public int lies() {
        sand.takeFrom(plate);
        int[] motion = motionNow();
        for (int shakes = 0; shakes <= MOST_SHAKES_TRIED; shakes++) {
            if (sand.shakeOnce(plate, motion) == 0) {
                return shakes;
            }
        }
        return NONE;
    }

    // ---- which period

    public int sees(int cell, int is) {
        if (cell < 0 || cell >= MOST_CELLS || is < 0 || is > 1) {
            return BAD;
        }
        return seen.add(cell, is) ? seen.many : FULL;
    }

    public int forget() {
        int was = seen.many;
        seen.many = 0;
        return was;
    }

    public int which(int what) {
        if (what < 0 || what > 1) {
            return BAD;
        }
        int periods = 0;
        int least = NONE;
        for (int period = LEAST_PERIOD; period <= MOST_PERIOD; period++) {
            if (seen.fits(plate, motions.by(plate, period))) {
                least = periods == 0 ? period : least;
                periods++;
            }
        }
        return what == 0 ? periods : least;
    }

    public int look() {
        int periods = countStillBy();
        if (periods <= 1) {
            return NONE;
        }
        int found = 0;
        int least = periods + 1;
        for (int at = 0; at < plate.cells(); at++) {
            int greater = Math.max(stillBy[at], periods - stillBy[at]);
            if (greater < least) {
                least = greater;
                found = at;
            }
        }
        return found;
    }

    // ---- images

    public int keep(int image) {
        if (image < 0 || image >= IMAGES) {
            return BAD;
        }
        images[image].takeFrom(plate);
        isKept[image] = true;
        return plate.cells();
    }

    public int back(int image) {
        if (image < 0 || image >= IMAGES) {
            return BAD;
        }
        if (!isKept[image]) {
            return STATE;
        }
        plate.takeFrom(images[image]);
        history.known = 0;
        return plate.cells();
    }

    public int count(int what) {
        switch (what) {
            case 0: return plate.columns;
            case 1: return plate.rows;
            case 2: return plate.cellsOfFigure();
            case 3: return plate.mostGrains();
            case 4: return plate.cellsWithGrains(0);
            case 5: return seen.many;
            case 6: return teller.text.length;
            case 7: return history.known;
            default: return BAD;
        }
    }

    private int[] motionNow() {
        return motions.by(plate, plate.numbers[PERIOD]);
    }

    private int change(int what, int n) {
        int was = plate.numbers[what];
        if (was == n) {
            return STATE;
        }
        history.record(plate);
        plate.numbers[what] = n;
        return was;
    }

    /** Counts, for each cell, the periods that fit what was seen and leave it still; answers how many fit. */
    private int countStillBy() {
        Arrays.fill(stillBy, 0);
        int periods = 0;
        for (int period = LEAST_PERIOD; period <= MOST_PERIOD; period++) {
            int[] motion = motions.by(plate, period);
            if (seen.fits(plate, motion)) {
                periods++;
                for (int at = 0; at < plate.cells(); at++) {
                    stillBy[at] += plate.isStill(motion, at) ? 1 : 0;
                }
            }
        }
        return periods;
    }

    /** All that section 1 of the document tells, but THE TEXT: what undo() and the images restore. */
    private static final class Plate {
        private int columns;
        private int rows;
        private final int[] numbers = new int[NUMBERS];
        private final int[] figure = new int[MOST_CELLS];
        private final int[] grains = new int[MOST_CELLS];

        private Plate() {
            beAsAtFirst();
        }

        private void beAsAtFirst() {
            columns = 3;
            rows = 3;
            System.arraycopy(AT_FIRST, 0, numbers, 0, NUMBERS);
            Arrays.fill(figure, 0);
            layGrains();
        }

        private void takeFrom(Plate other) {
            columns = other.columns;
            rows = other.rows;
            System.arraycopy(other.numbers, 0, numbers, 0, NUMBERS);
            System.arraycopy(other.figure, 0, figure, 0, MOST_CELLS);
            System.arraycopy(other.grains, 0, grains, 0, MOST_CELLS);
        }

        private void layGrains() {
            Arrays.fill(grains, 1);
        }

        private int cells() {
            return columns * rows;
        }

        /** The cell's number, or BAD where the plate has none. */
        private int cellAt(int x, int y) {
            if (x < 0 || x >= columns || y < 0 || y >= rows) {
                return BAD;
            }
            return columns * y + x;
        }

        private int cellsOfFigure() {
            int many = 0;
            for (int at = 0; at < cells(); at++) {
                many += figure[at];
            }
            return many;
        }

        private int cellsWithGrains(int n) {
            int many = 0;
            for (int at = 0; at < cells(); at++) {
                many += grains[at] == n ? 1 : 0;
            }
            return many;
        }

        private int mostGrains() {
            int most = 0;
            for (int at = 0; at < cells(); at++) {
                most = Math.max(most, grains[at]);
            }
            return most;
        }

        private boolean isStill(int[] motion, int at) {
            return motion[at] <= numbers[LIMIT];
        }

        private int stillCells(int[] motion) {
            int many = 0;
            for (int at = 0; at < cells(); at++) {
                many += isStill(motion, at) ? 1 : 0;
            }
            return many;
        }

        private int likeness(int[] motion) {
            int many = 0;
            for (int at = 0; at < cells(); at++) {
                many += isStill(motion, at) == (figure[at] == 1) ? 1 : 0;
            }
            return many;
        }

        private int apart(int[] motion) {
            if (cellsOfFigure() == 0 || stillCells(motion) == 0) {
                return NONE;
            }
            int steps = 0;
            for (int y = 0; y < rows; y++) {
                for (int x = 0; x < columns; x++) {
                    int at = columns * y + x;
                    steps += figure[at] == 1 ? stepsToNearest(motion, true, x, y) : 0;
                    steps += isStill(motion, at) ? stepsToNearest(motion, false, x, y) : 0;
                }
            }
            return steps;
        }

        /** The steps to the nearest still cell, or else to the nearest one of the figure. */
        private int stepsToNearest(int[] motion, boolean toStill, int fromX, int fromY) {
            int nearest = MOST_CELLS;
            for (int y = 0; y < rows; y++) {
                for (int x = 0; x < columns; x++) {
                    int at = columns * y + x;
                    if (toStill ? isStill(motion, at) : figure[at] == 1) {
                        nearest = Math.min(nearest, Math.abs(x - fromX) + Math.abs(y - fromY));
                    }
                }
            }
            return nearest;
        }
    }

    /** The plates as they were ahead of the latest changes, the oldest first. */
    private static final class History {
        private final Plate[] plates = new Plate[MOST_UNDONE];
        private int known;

        private History() {
            for (int i = 0; i < MOST_UNDONE; i++) {
                plates[i] = new Plate();
            }
        }

        private void record(Plate plate) {
            if (known >= MOST_UNDONE) {
                loseOldest();
            }
            plates[known].takeFrom(plate);
            known++;
        }

        private boolean takeBack(Plate plate) {
            if (known <= 0) {
                return false;
            }
            known--;
            plate.takeFrom(plates[known]);
            return true;
        }

        private void loseOldest() {
            Plate oldest = plates[0];
            for (int i = 1; i < MOST_UNDONE; i++) {
                plates[i - 1] = plates[i];
            }
            plates[MOST_UNDONE - 1] = oldest;
            known = MOST_UNDONE - 1;
        }
    }

    /**
     * The runs of a plate. Motions are kept by period, since best(), which() and look() ask for
     * all periods again and again while what they hang on seldom changes.
     */
    private static final class Motions {
        private static final int STEPS_AHEAD = 30;
        private static final int HIGHEST = 9999;
        private static final int PULL_SHARE = 16;

        private final int[] heights = new int[MOST_CELLS];
        private final int[] speeds = new int[MOST_CELLS];
        private final int[] lowest = new int[MOST_CELLS];
        private final int[][] motions = new int[MOST_PERIOD + 1][MOST_CELLS];
        private final boolean[] isKnown = new boolean[MOST_PERIOD + 1];
        private int columns;
        private int rows;
        private final int[] numbers = new int[NUMBERS];

        /** The motion of each cell by a period of 2 to 20; the row holds till the plate is made another. */
        private int[] by(Plate plate, int period) {
            if (!isOf(plate)) {
                become(plate);
            }
            int[] motion = motions[period];
            if (!isKnown[period]) {
                workOut(plate, period, motion);
                isKnown[period] = true;
            }
            return motion;
        }

        private int heightBehind(Plate plate, int at, int steps) {
            rest();
            for (int t = 0; t < steps; t++) {
                step(plate, plate.numbers[PERIOD], t);
            }
            return heights[at];
        }

        private boolean isOf(Plate plate) {
            boolean same = columns == plate.columns && rows == plate.rows;
            for (int what = 0; what < NUMBERS; what++) {
                // the period is asked for, and the limit moves nothing
                boolean counts = what != PERIOD && what != LIMIT;
                same = same && (!counts || numbers[what] == plate.numbers[what]);
            }
            return same;
        }

        private void become(Plate plate) {
            columns = plate.columns;
            rows = plate.rows;
            System.arraycopy(plate.numbers, 0, numbers, 0, NUMBERS);
            for (int period = 0; period <= MOST_PERIOD; period++) {
                isKnown[period] = false;
            }
        }

        private void workOut(Plate plate, int period, int[] motion) {
            rest();
            Arrays.fill(motion, -HIGHEST);
            Arrays.fill(lowest, HIGHEST);
            for (int t = 0; t < STEPS_AHEAD + period; t++) {
                step(plate, period, t);
                if (t >= STEPS_AHEAD) {
                    noteHeights(plate.cells(), motion);
                }
            }
            for (int at = 0; at < plate.cells(); at++) {
                motion[at] -= lowest[at];
            }
        }

        private void noteHeights(int cells, int[] highest) {
            for (int at = 0; at < cells; at++) {
                highest[at] = Math.max(highest[at], heights[at]);
                lowest[at] = Math.min(lowest[at], heights[at]);
            }
        }

        private void rest() {
            Arrays.fill(heights, 0);
            Arrays.fill(speeds, 0);
        }

        /** All speeds come from the heights of before, so no height may change ahead of the last speed. */
        private void step(Plate plate, int period, int t) {
            int stiff = plate.numbers[STIFF];
            for (int y = 0; y < plate.rows; y++) {
                for (int x = 0; x < plate.columns; x++) {
                    speeds[plate.columns * y + x] += stiff * pull(plate, x, y) / PULL_SHARE;
                }
            }
            int force = plate.numbers[FORCE];
            speeds[plate.numbers[DRIVER]] += t % period < period / 2 ? force : -force;
            int loss = plate.numbers[LOSS];
            for (int at = 0; at < plate.cells(); at++) {
                speeds[at] -= speeds[at] / loss;
                heights[at] = Math.max(-HIGHEST, Math.min(HIGHEST, heights[at] + speeds[at]));
            }
        }

        private int pull(Plate plate, int x, int y) {
            int w = plate.columns;
            int at = w * y + x;
            int own = heights[at];
            int beyond = plate.numbers[EDGE] == 1 ? own : 0;
            int up = y > 0 ? heights[at - w] : beyond;
            int right = x < w - 1 ? heights[at + 1] : beyond;
            int down = y < plate.rows - 1 ? heights[at + w] : beyond;
            int left = x > 0 ? heights[at - 1] : beyond;
            return up + right + down + left - 4 * own;
        }
    }

    /** Grains to try shakes on, so that the plate's own stay till it is clear that they move. */
    private static final class Sand {
        private final int[] grains = new int[MOST_CELLS];
        private final int[] coming = new int[MOST_CELLS];

        private void takeFrom(Plate plate) {
            System.arraycopy(plate.grains, 0, grains, 0, MOST_CELLS);
        }

        private void layOn(Plate plate) {
            System.arraycopy(grains, 0, plate.grains, 0, MOST_CELLS);
        }

        /** One shake; answers how many grains it moved. */
        private int shakeOnce(Plate plate, int[] motion) {
            Arrays.fill(coming, 0);
            int moved = 0;
            for (int y = 0; y < plate.rows; y++) {
                for (int x = 0; x < plate.columns; x++) {
                    int at = plate.columns * y + x;
                    int to = goal(plate, motion, x, y);
                    coming[to] += grains[at];
                    moved += to == at ? 0 : grains[at];
                }
            }
            System.arraycopy(coming, 0, grains, 0, MOST_CELLS);
            return moved;
        }

        /** The cell to which a cell's grains go; the cell itself, if they stay. */
        private static int goal(Plate plate, int[] motion, int x, int y) {
            int to = plate.columns * y + x;
            if (plate.isStill(motion, to)) {
                return to;
            }
            for (int side = 0; side < STEP_X.length; side++) {
                int beside = plate.cellAt(x + STEP_X[side], y + STEP_Y[side]);
                if (beside >= 0 && motion[beside] < motion[to]) {
                    to = beside;
                }
            }
            return to;
        }
    }

    /** What was seen of the unknown period: cells that were still, or not. */
    private static final class Seen {
        private final int[] cells = new int[MOST_SEEN];
        private final int[] wereStill = new int[MOST_SEEN];
        private int many;

        private boolean add(int at, int is) {
            if (many >= MOST_SEEN) {
                return false;
            }
            cells[many] = at;
            wereStill[many] = is;
            many++;
            return true;
        }

        private boolean fits(Plate plate, int[] motion) {
            for (int i = 0; i < many; i++) {
                // a cell beyond the plate is neither still nor not, so nothing fits it
                if (cells[i] >= plate.cells() || plate.isStill(motion, cells[i]) != (wereStill[i] == 1)) {
                    return false;
                }
            }
            return true;
        }
    }

    /** THE TEXT, and the token that is being looked at: letters first up to, without, end. */
    private static final class Text {
        private static final int END = 0, WORD = 1, FIGURES = 2, SEMICOLON = 3, OTHER = 4;

        private final int[] letters = new int[MOST_LETTERS];
        private int length;
        private int kind;
        private int first;
        private int end;

        private boolean add(int letter) {
            if (length >= MOST_LETTERS) {
                return false;
            }
            letters[length] = letter;
            length++;
            return true;
        }

        private void rewind() {
            end = 0;
        }

        private void advance() {
            while (end < length && letters[end] == ' ') {
                end++;
            }
            first = end;
            if (first >= length) {
                kind = END;
                return;
            }
            kind = kindOf(letters[first]);
            end++;
            boolean isRow = kind == WORD || kind == FIGURES;
            while (isRow && end < length && kindOf(letters[end]) == kind) {
                end++;
            }
        }

        private static int kindOf(int letter) {
            if (letter >= 'a' && letter <= 'z') {
                return WORD;
            }
            if (letter >= '0' && letter <= '9') {
                return FIGURES;
            }
            return letter == ';' ? SEMICOLON : OTHER;
        }

        private boolean isSpelled(String word) {
            if (kind != WORD || end - first != word.length()) {
                return false;
            }
            for (int i = 0; i < word.length(); i++) {
                if (letters[first + i] != word.charAt(i)) {
                    return false;
                }
            }
            return true;
        }

        /** The token's number, or BAD if it is none of one or two figures without a needless 0. */
        private int number() {
            if (kind != FIGURES || end - first > 2) {
                return BAD;
            }
            int figure = letters[first] - '0';
            if (end - first == 1) {
                return figure;
            }
            return figure == 0 ? BAD : 10 * figure + letters[first + 1] - '0';
        }
    }

    /** Reads THE TEXT into a plate of its own; where a read answers false, the text stands at the faulty token. */
    private static final class Teller {
        /** The words behind those of the settings, which have the settings' numbers. */
        private static final int PLATE = 6, DRIVE = 7, ROW = 8;
        private static final int NO_WORD = -1;

        private final Text text = new Text();
        private final Plate plate = new Plate();
        private boolean isPlateFixed;
        private int rowsTold;

        /** How many items there are, or -10 less the fault's place. */
        private int readAll() {
            startAnew();
            for (int items = 0; items <= MOST_LETTERS; items++) {
                text.advance();
                if (text.kind == Text.END) {
                    return items;
                }
                if (!readTold(wordHere()) || !readSemicolon()) {
                    return FAULT_AT_0 - text.first;
                }
            }
            return FAULT_AT_0 - text.first;
        }

        private void startAnew() {
            text.rewind();
            plate.beAsAtFirst();
            isPlateFixed = false;
            rowsTold = 0;
        }

        private boolean readSemicolon() {
            text.advance();
            return text.kind == Text.SEMICOLON;
        }

        private boolean readTold(int word) {
            switch (word) {
                case NO_WORD: return false;
                case PLATE: return readPlate();
                case DRIVE: return readDrive();
                case ROW: return readRow();
                default: return readSetting(word);
            }
        }

        private int wordHere() {
            for (int word = EDGE; word <= ROW; word++) {
                if (text.isSpelled(spelling(word))) {
                    return word;
                }
            }
            return NO_WORD;
        }

        private static String spelling(int word) {
            switch (word) {
                case EDGE: return "edge";
                case STIFF: return "stiff";
                case LOSS: return "loss";
                case FORCE: return "force";
                case PERIOD: return "period";
                case LIMIT: return "limit";
                case PLATE: return "plate";
                case DRIVE: return "drive";
                default: return "row";
            }
        }

        private boolean readPlate() {
            if (isPlateFixed) {
                return false;
            }
            isPlateFixed = true;
            int columns = readNumber(LEAST_SIDE, MOST_SIDE);
            if (columns < 0) {
                return false;
            }
            int rows = readNumber(LEAST_SIDE, MOST_SIDE);
            if (rows < 0) {
                return false;
            }
            plate.columns = columns;
            plate.rows = rows;
            return true;
        }

        private boolean readSetting(int what) {
            if (what < 0 || what >= SETTINGS) {
                return false;
            }
            int n = readNumber(LEAST[what], MOST[what]);
            if (n < 0) {
                return false;
            }
            plate.numbers[what] = n;
            return true;
        }

        private boolean readDrive() {
            isPlateFixed = true;
            int x = readNumber(0, plate.columns - 1);
            if (x < 0) {
                return false;
            }
            int y = readNumber(0, plate.rows - 1);
            if (y < 0) {
                return false;
            }
            plate.numbers[DRIVER] = plate.columns * y + x;
            return true;
        }

        private boolean readRow() {
            if (rowsTold >= plate.rows) {
                return false;
            }
            isPlateFixed = true;
            text.advance();
            if (text.kind != Text.FIGURES || text.end - text.first != plate.columns) {
                return false;
            }
            for (int x = 0; x < plate.columns; x++) {
                int is = text.letters[text.first + x] - '0';
                if (is > 1) {
                    return false;
                }
                plate.figure[plate.columns * rowsTold + x] = is;
            }
            rowsTold++;
            return true;
        }

        /** The next token's number, or BAD if it is not one from least to most. */
        private int readNumber(int least, int most) {
            text.advance();
            int n = text.number();
            return n < least || n > most ? BAD : n;
        }
    }
}
