import java.util.Arrays;

/** The boundaries of what moves and lies still: steps, motion, shakes, the figure, the periods that can be. */
public final class MotionBoundaryTest {
    /** Slack and clamped: only the driver and the cells beside it move, by the motions that the cases name. */
    private static final String SLACK = "edge 0;stiff 1;loss 2;period 2;limit 0;";
    /** Its sand takes eleven shakes to lie, the longest that was found. */
    private static final String LONG = "plate 4 6;edge 0;stiff 1;loss 5;force 99;period 17;limit 0;drive 0 1;";
    /** Cell 35 alone is still. */
    private static final String ONE_STILL = "plate 6 6;stiff 1;loss 20;period 5;limit 0;";
    /** Every cell is still by every period. */
    private static final String CALM = "force 1;limit 99;";
    private static final String PERIODS = "edge 0;stiff 3;limit 71;drive 1 0;";
    /** The still cells of PERIODS by the periods 2 to 20. */
    private static final String[] STILL = {"111111111", "111111111", "111111111", "101111111", "000000000",
        "000000000", "000010000", "000000000", "000000000", "000000000", "000000000", "000000000", "000000000",
        "000000000", "000000000", "000000000", "000000000", "000000000", "000000101"};

    public static void main(String[] args) {
        Bench.holds("13: n (0 .. 60)", MotionBoundaryTest::heightSteps);
        Bench.holds("13: of a CELL; -1000000: BAD", MotionBoundaryTest::heightCells);
        Bench.holds("2: a RUN begins at rest", MotionBoundaryTest::rest);
        Bench.holds("2: t left over by PERIOD is less than PERIOD by 2", MotionBoundaryTest::turnsOfForce);
        Bench.holds("2: every STEP, t = 0 to 59", MotionBoundaryTest::everyStep);
        Bench.holds("2: a neighbour that is not on THE PLATE", MotionBoundaryTest::beyondTheEdge);
        Bench.holds("2: division cut towards 0", MotionBoundaryTest::cutTowardsZero);
        Bench.holds("2: the farthest HEIGHT that a RUN comes to", MotionBoundaryTest::farthest);
        Bench.holds("2: MOTION: the STEPS 30 to 29 and PERIOD", MotionBoundaryTest::motionSteps);
        Bench.holds("2: STILL, if that is LIMIT or less", MotionBoundaryTest::stillAtLimit);
        Bench.holds("2: the least LIMIT and the greatest", MotionBoundaryTest::leastAndMostLimit);
        Bench.holds("2: a SHAKE, of each CELL that is not STILL", MotionBoundaryTest::stillKeepsGrains);
        Bench.holds("2: a SHAKE, of each CELL that has GRAINS", MotionBoundaryTest::emptyCells);
        Bench.holds("2: a SHAKE, to less MOTION", MotionBoundaryTest::equalMotion);
        Bench.holds("2: of several the first of up, right, down, left", MotionBoundaryTest::ties);
        Bench.holds("2: a SHAKE, all at once, all its GRAINS", MotionBoundaryTest::allAtOnce);
        Bench.holds("5: n (1 .. 20)", MotionBoundaryTest::shakesBounds);
        Bench.holds("5: n SHAKES: how many GRAINS are MOVED", MotionBoundaryTest::shakesMany);
        Bench.holds("5: STATE: by the first one none would be", MotionBoundaryTest::shakesNone);
        Bench.holds("16: LIES (0 to 99)", MotionBoundaryTest::lies);
        Bench.holds("14: what: 0 to 2", MotionBoundaryTest::stillWhat);
        Bench.holds("14: how many CELLS are STILL: none, all", MotionBoundaryTest::stillNoneToAll);
        Bench.holds("14: LIKENESS: none, all", MotionBoundaryTest::likeness);
        Bench.holds("14: APART: NONE, if there are none of the ones or of the others", MotionBoundaryTest::apartNone);
        Bench.holds("14: APART: from 0 to the longest way", MotionBoundaryTest::apart);
        Bench.holds("15: what: 0, 1", MotionBoundaryTest::bestWhat);
        Bench.holds("15: BEST: the PERIOD (2 to 20)", MotionBoundaryTest::bestFirstAndLast);
        Bench.holds("15: BEST: of several the least", MotionBoundaryTest::bestOfSeveral);
        Bench.holds("17: a CELL's number 0 .. 35; 1 STILL, 0 not", MotionBoundaryTest::seesBounds);
        Bench.holds("17: FULL: 6", MotionBoundaryTest::seesFull);
        Bench.holds("18: nothing is SEEN: how much was", MotionBoundaryTest::forgets);
        Bench.holds("19: what: 0, 1", MotionBoundaryTest::whichWhat);
        Bench.holds("19: how many, the least; NONE", MotionBoundaryTest::whichNoneToAll);
        Bench.holds("19: a CELL that is not on THE PLATE is neither", MotionBoundaryTest::whichOffThePlate);
        Bench.holds("19: all else as it is when it is asked", MotionBoundaryTest::whichWhenAsked);
        Bench.holds("20: NONE (one can be at most)", MotionBoundaryTest::lookNone);
        Bench.holds("20: the greater of two is least; of several the lowest", MotionBoundaryTest::lookLowest);
        Bench.holds("20: by how many of these it is STILL, by how many not", MotionBoundaryTest::lookAtHalf);
        Bench.holds("3: (Nothing is changed.)", MotionBoundaryTest::askingChangesNothing);
        Bench.holds("3: what is asked is of the plate as it is, whatever was asked ahead", MotionBoundaryTest::askedAnew);
        Bench.end();
    }

    private static Counted fresh() {
        return new Counted();
    }

    // ---- heights

    /** heights[n][cell], each cell by an object of its own, since one has no calls for all. */
    private static int[][] heights(String text, int columns, int rows) {
        int[][] heights = new int[61][columns * rows];
        for (int at = 0; at < columns * rows; at++) {
            Counted x = Bench.told(text);
            for (int n = 0; n <= 60; n++) {
                heights[n][at] = x.height(at % columns, at / columns, n);
            }
        }
        return heights;
    }

    private static int cut(int a, int b) {
        return a < 0 ? -(-a / b) : a / b;
    }

    /** STEP t of a plate with these numbers, by the rule, from the heights behind the steps ahead of it. */
    private static void stepIsDue(String text, int[][] heights, int t, int[] numbers, int force) {
        int columns = numbers[0];
        int rows = numbers[1];
        for (int at = 0; at < columns * rows; at++) {
            int x = at % columns;
            int y = at / columns;
            int own = heights[t][at];
            int beyond = numbers[2] == 1 ? own : 0;
            int pull = (y > 0 ? heights[t][at - columns] : beyond) + (x + 1 < columns ? heights[t][at + 1] : beyond)
                + (y + 1 < rows ? heights[t][at + columns] : beyond) + (x > 0 ? heights[t][at - 1] : beyond) - 4 * own;
            int speed = (t == 0 ? 0 : own - heights[t - 1][at]) + cut(numbers[3] * pull, 16);
            speed += at == numbers[5] ? force : 0;
            speed -= cut(speed, numbers[4]);
            Bench.due("'" + text + "', the height of " + at + " behind step " + t, heights[t + 1][at], own + speed);
        }
    }

    private static void heightSteps() {
        Counted x = fresh();
        Bench.due("height(0, 0, 0)", x.height(0, 0, 0), 0);
        Bench.due("height(0, 0, 1)", x.height(0, 0, 1), 35);
        Bench.due("height(2, 2, 60)", x.height(2, 2, 60), 127);
        Bench.refused("height(0, 0, -1)", Bench.BAD_HEIGHT, Bench::busy, y -> y.height(0, 0, -1));
        Bench.refused("height(0, 0, 61)", Bench.BAD_HEIGHT, Bench::busy, y -> y.height(0, 0, 61));
        Bench.refused("height(0, 0, lowest)", Bench.BAD_HEIGHT, Bench::busy, y -> y.height(0, 0, Bench.LOWEST));
        Bench.refused("height(0, 0, highest)", Bench.BAD_HEIGHT, Bench::busy, y -> y.height(0, 0, Bench.HIGHEST));
    }

    private static void heightCells() {
        Counted x = Bench.told("plate 3 2;drive 2 1;");
        Bench.due("height(2, 1, 1)", x.height(2, 1, 1), 35);
        Bench.due("height(0, 0, 1)", x.height(0, 0, 1), 0);
        Bench.due("height(2, 0, 2)", x.height(2, 0, 2), 7);
        Bench.due("height(1, 1, 2)", x.height(1, 1, 2), 7);
        Bench.refused("height(-1, 0, 0)", Bench.BAD_HEIGHT, Bench::busy, y -> y.height(-1, 0, 0));
        Bench.refused("height(3, 0, 0)", Bench.BAD_HEIGHT, Bench::busy, y -> y.height(3, 0, 0));
        Bench.refused("height(0, -1, 0)", Bench.BAD_HEIGHT, Bench::busy, y -> y.height(0, -1, 0));
        Bench.refused("height(0, 2, 0)", Bench.BAD_HEIGHT, Bench::busy, y -> y.height(0, 2, 0));
        Bench.refused("height(lowest, highest, 60)", Bench.BAD_HEIGHT, Bench::busy,
            y -> y.height(Bench.LOWEST, Bench.HIGHEST, 60));
    }

    private static void rest() {
        for (String text : new String[] {"", SLACK, LONG, "plate 2 2;force 99;", "plate 6 6;force 99;drive 5 5;"}) {
            Counted x = Bench.told(text);
            int columns = x.count(0);
            for (int at = 0; at < columns * x.count(1); at++) {
                Bench.due("'" + text + "', " + at + " at rest", x.height(at % columns, at / columns, 0), 0);
                int driven = at == x.setting(6) ? x.setting(3) - x.setting(3) / x.setting(2) : 0;
                Bench.due("'" + text + "', " + at + " behind step 0", x.height(at % columns, at / columns, 1), driven);
            }
        }
        Counted x = fresh();
        int before = x.height(0, 0, 60);
        x.cell(0, 0, 0);
        x.best(0);
        Bench.due("each run begins at rest", x.height(0, 0, 60), before);
    }

    private static void turnsOfForce() {
        int[] numbers = {3, 3, 1, 4, 8, 4};
        for (int period = 2; period <= 20; period++) {
            String text = "drive 1 1;period " + period + ";";
            int[][] heights = heights(text, 3, 3);
            stepIsDue(text, heights, 0, numbers, 40);
            stepIsDue(text, heights, period / 2 - 1, numbers, 40);
            stepIsDue(text, heights, period / 2, numbers, -40);
            stepIsDue(text, heights, period - 1, numbers, -40);
            stepIsDue(text, heights, period, numbers, 40);
            stepIsDue(text, heights, period + period / 2 - 1, numbers, 40);
            stepIsDue(text, heights, period + period / 2, numbers, -40);
            stepIsDue(text, heights, 2 * period - 1, numbers, -40);
            stepIsDue(text, heights, 2 * period, numbers, 40);
        }
    }

    private static void everyStep() {
        int[][] plates = {{2, 2, 0, 7, 20, 3}, {2, 2, 1, 3, 20, 0}, {3, 4, 0, 5, 9, 7}, {6, 2, 1, 1, 2, 11},
            {2, 6, 1, 7, 3, 10}, {6, 6, 0, 2, 15, 35}, {6, 6, 1, 6, 20, 6}};
        for (int[] p : plates) {
            for (int period : new int[] {2, 3, 20}) {
                String text = "plate " + p[0] + " " + p[1] + ";edge " + p[2] + ";stiff " + p[3] + ";loss " + p[4]
                    + ";force 99;period " + period + ";drive " + p[5] % p[0] + " " + p[5] / p[0] + ";";
                int[][] heights = heights(text, p[0], p[1]);
                for (int t = 0; t < 60; t++) {
                    stepIsDue(text, heights, t, p, t % period < period / 2 ? 99 : -99);
                }
            }
        }
    }

    private static void beyondTheEdge() {
        // behind step 0 the driver alone is 35 high; by step 1: 4 times pull by 16, then the force, then the loss
        Counted free = fresh();
        Counted clamped = Bench.told("edge 0;");
        // a corner has two neighbours beyond: pull 70 - 140, or -140
        Bench.due("free: corner", free.height(0, 0, 2), 35 + 51);
        Bench.due("clamped: corner", clamped.height(0, 0, 2), 35 + 35);
        free.drives(1, 0);
        clamped.drives(1, 0);
        // a side has one: pull 35 - 140 = -105, by 16: -26; 35 - 26 + 40 = 49, less 6
        Bench.due("free: side", free.height(1, 0, 2), 35 + 43);
        Bench.due("clamped: side", clamped.height(1, 0, 2), 35 + 35);
        free.drives(1, 1);
        clamped.drives(1, 1);
        // inside there is none: pull -140
        Bench.due("free: inside", free.height(1, 1, 2), 35 + 35);
        Bench.due("clamped: inside", clamped.height(1, 1, 2), 35 + 35);
        // the end of a row is no neighbour of the next row's begin, nor the last row of the first
        Counted x = Bench.told("plate 3 3;drive 2 0;");
        Bench.due("the next row's begin", x.height(0, 1, 2), 0);
        Bench.due("the row's own begin", x.height(0, 0, 2), 0);
        Bench.due("the last row", x.height(2, 2, 2), 0);
        Bench.due("beside it", x.height(1, 0, 2), 7);
        Bench.due("below it", x.height(2, 1, 2), 7);
    }

    private static void cutTowardsZero() {
        Counted x = Bench.told("period 2;");
        // pull 70 - 140 = -70, by 16: -280 / 16 = -17.5, cut: -17; 35 - 17 - 40 = -22, by 8: -2; so -20
        Bench.due("below 0", x.height(0, 0, 2), 15);
        x = Bench.told("stiff 1;force 15;loss 20;drive 1 1;");
        // 15 by 20 is 0, and so is 15 by 16 for a neighbour
        Bench.due("less than LOSS is not lost", x.height(1, 1, 1), 15);
        Bench.due("less than 16 does not pull", x.height(1, 0, 2), 0);
        x = Bench.told("stiff 1;force 16;loss 20;drive 1 1;");
        Bench.due("16 pulls", x.height(1, 0, 2), 1);
        x = Bench.told("stiff 1;force 19;loss 20;");
        Bench.due("19 by 20", x.height(0, 0, 1), 19);
        x = Bench.told("stiff 1;force 20;loss 20;");
        Bench.due("20 by 20", x.height(0, 0, 1), 19);
        x = Bench.told("stiff 1;force 21;loss 20;");
        Bench.due("21 by 20", x.height(0, 0, 1), 20);
    }

    /** All plates were tried: none comes farther than this, so that 9999 is looked for by HeightBoundTest. */
    private static void farthest() {
        Counted x = Bench.told("plate 2 2;stiff 3;loss 20;force 99;period 3;");
        Bench.due("the lowest height", x.height(0, 0, 60), -6752);
        x = Bench.told("plate 2 2;stiff 1;loss 20;force 99;period 20;");
        int most = 0;
        for (int n = 0; n <= 60; n++) {
            for (int at = 0; at < 4; at++) {
                most = Math.max(most, x.height(at % 2, at / 2, n));
            }
        }
        Bench.due("the highest height", most, 4650);
    }

    // ---- motion

    private static void motionIsDue(String text, int x, int y, int[] behind, int motion) {
        Counted plate = Bench.told(text);
        int period = plate.setting(4);
        int[] steps = {30, 31, 30 + period, 31 + period};
        for (int i = 0; i < 4; i++) {
            Bench.due("'" + text + "', the height behind " + steps[i] + " steps", plate.height(x, y, steps[i]), behind[i]);
        }
        Bench.due("'" + text + "', motion", plate.cell(x, y, 0), motion);
    }

    private static void motionSteps() {
        // the height rises or falls all the while, so that one step more or less at either end is another motion
        motionIsDue("edge 0;stiff 1;loss 3;period 2;", 1, 1, new int[] {6, 4, 2, 0}, 2);
        motionIsDue("stiff 1;loss 2;period 20;", 2, 2, new int[] {12, 13, 32, 33}, 19);
        for (int period = 2; period <= 20; period++) {
            for (int at = 0; at < 9; at++) {
                Counted x = Bench.told("drive 1 0;period " + period + ";");
                int most = x.height(at % 3, at / 3, 31);
                int least = most;
                for (int n = 32; n <= 30 + period; n++) {
                    most = Math.max(most, x.height(at % 3, at / 3, n));
                    least = Math.min(least, x.height(at % 3, at / 3, n));
                }
                Bench.due("motion of " + at + " by " + period, x.cell(at % 3, at / 3, 0), most - least);
            }
        }
    }

    private static void stillAtLimit() {
        Counted x = Bench.told("plate 2 2;edge 0;force 15;");
        int[] motion = {59, 83, 83, 99};
        int[] limits = {58, 59, 60, 82, 83, 84, 98, 99};
        int[] still = {0, 1, 1, 1, 3, 3, 3, 4};
        for (int i = 0; i < limits.length; i++) {
            x.sets(5, limits[i]);
            Bench.due("still cells by " + limits[i], x.still(0), still[i]);
            for (int at = 0; at < 4; at++) {
                Bench.due("motion of " + at, x.cell(at % 2, at / 2, 0), motion[at]);
                Bench.due(at + " by " + limits[i], x.cell(at % 2, at / 2, 1), motion[at] <= limits[i] ? 1 : 0);
            }
        }
    }

    private static void leastAndMostLimit() {
        Counted x = Bench.told("plate 2 2;edge 0;force 1;period 2;limit 0;");
        Bench.due("a motion of 1", x.cell(0, 0, 0), 1);
        Bench.due("1 by the limit 0", x.cell(0, 0, 1), 0);
        Bench.due("a motion of 0", x.cell(1, 1, 0), 0);
        Bench.due("0 by the limit 0", x.cell(1, 1, 1), 1);
        x.sets(5, 1);
        Bench.due("1 by the limit 1", x.cell(0, 0, 1), 1);
        x = Bench.told("plate 2 2;edge 0;force 15;limit 99;");
        Bench.due("a motion of 99", x.cell(1, 1, 0), 99);
        Bench.due("99 by the limit 99", x.cell(1, 1, 1), 1);
        x = Bench.told("plate 2 2;force 10;limit 99;");
        Bench.due("a motion of 100", x.cell(1, 1, 0), 100);
        Bench.due("100 by the limit 99", x.cell(1, 1, 1), 0);
    }

    // ---- shakes

    private static void grainsAre(String name, Counted x, int... want) {
        int columns = x.count(0);
        for (int at = 0; at < want.length; at++) {
            Bench.due(name + ", grains of " + at, x.cell(at % columns, at / columns, 2), want[at]);
        }
    }

    private static void motionsAre(String name, Counted x, int... want) {
        int columns = x.count(0);
        for (int at = 0; at < want.length; at++) {
            Bench.due(name + ", motion of " + at, x.cell(at % columns, at / columns, 0), want[at]);
        }
    }

    private static void stillKeepsGrains() {
        Counted x = Bench.told(SLACK);
        motionsAre("slack", x, 14, 1, 0, 1, 0, 0, 0, 0, 0);
        Bench.due("limit 0: three cells are not still", x.shakes(1), 3);
        x = Bench.told(SLACK + "limit 1;");
        Bench.due("limit 1: the driver alone is not still", x.shakes(1), 1);
        grainsAre("limit 1", x, 0, 2, 1, 1, 1, 1, 1, 1, 1);
        Bench.due("limit 1: a still cell keeps what came", x.shakes(1), Bench.STATE);
        Bench.due("limit 13: not still", Bench.told(SLACK + "limit 13;").shakes(1), 1);
        Bench.due("limit 14: still", Bench.told(SLACK + "limit 14;").shakes(1), Bench.STATE);
    }

    private static void emptyCells() {
        Counted x = Bench.told(SLACK);
        Bench.due("the first shake", x.shakes(1), 3);
        grainsAre("behind the first shake", x, 0, 1, 2, 0, 2, 1, 1, 1, 1);
        Bench.due("the second shake", x.shakes(1), 1);
        grainsAre("behind the second shake", x, 0, 0, 3, 0, 2, 1, 1, 1, 1);
        Bench.due("the third shake: no cell that is not still has grains", x.shakes(1), Bench.STATE);
        Bench.due("cells without any", x.count(4), 3);
    }

    private static void equalMotion() {
        Counted x = Bench.told("plate 2 2;edge 0;stiff 1;loss 2;force 5;period 20;limit 0;");
        motionsAre("equal", x, 43, 9, 9, 9);
        Bench.due("none is still", x.still(0), 0);
        Bench.due("only the driver's grain moves", x.shakes(1), 1);
        grainsAre("equal", x, 0, 2, 1, 1);
        Bench.due("none moves to equal motion", x.shakes(20), Bench.STATE);
    }

    private static void ties() {
        int[][] motions = {{14, 1, 0, 1, 0, 0, 0, 0, 0}, {0, 14, 0, 0, 0, 0, 0, 0, 0}, {0, 1, 14, 0, 0, 1, 0, 0, 0},
            {0, 0, 0, 14, 0, 0, 0, 0, 0}, {0, 1, 0, 1, 15, 1, 0, 1, 0}, {0, 0, 0, 0, 0, 14, 0, 0, 0},
            {0, 0, 0, 1, 0, 0, 14, 1, 0}, {0, 0, 0, 0, 0, 0, 0, 14, 0}, {0, 0, 0, 0, 0, 1, 0, 1, 14}};
        int[][] grains = {{0, 1, 2, 0, 2, 1, 1, 1, 1}, {1, 0, 2, 1, 1, 1, 1, 1, 1}, {1, 0, 0, 1, 2, 1, 1, 1, 2},
            {2, 1, 1, 0, 1, 1, 1, 1, 1}, {2, 1, 3, 0, 0, 0, 1, 0, 2}, {1, 1, 2, 1, 1, 0, 1, 1, 1},
            {2, 1, 1, 1, 2, 1, 0, 0, 1}, {1, 1, 1, 1, 2, 1, 1, 0, 1}, {1, 1, 2, 1, 2, 1, 1, 0, 0}};
        int[] moved = {3, 1, 3, 1, 5, 1, 3, 1, 3};
        for (int driver = 0; driver < 9; driver++) {
            Counted x = Bench.told(SLACK + "drive " + driver % 3 + " " + driver / 3 + ";");
            motionsAre("driven at " + driver, x, motions[driver]);
            Bench.due("driven at " + driver + ", moved", x.shakes(1), moved[driver]);
            grainsAre("driven at " + driver, x, grains[driver]);
        }
    }

    private static void allAtOnce() {
        // a chain of cells, each of less motion than the one ahead of it, up and down the numbers
        Counted down = Bench.told("plate 2 2;limit 0;edge 0;stiff 1;loss 2;");
        Bench.dueSo("motion falls with the numbers", down.cell(0, 0, 0) > down.cell(1, 0, 0)
            && down.cell(1, 0, 0) > down.cell(1, 1, 0));
        Bench.due("moved down", down.shakes(1), 3);
        grainsAre("down", down, 0, 1, 0, 3);
        Bench.due("moved down again", down.shakes(1), 1);
        grainsAre("down again", down, 0, 0, 0, 4);
        Counted up = Bench.told("plate 2 2;limit 0;edge 0;stiff 1;loss 2;drive 1 1;");
        Bench.due("moved up", up.shakes(1), 3);
        grainsAre("up", up, 3, 1, 0, 0);
        Bench.due("moved up again", up.shakes(1), 1);
        grainsAre("up again", up, 4, 0, 0, 0);
        Counted piles = Bench.told("plate 6 6;stiff 3;period 20;limit 0;drive 1 1;");
        piles.shakes(20);
        Bench.due("all grains of all piles came to one cell", piles.cell(3, 3, 2), 36);
    }

    private static void shakesBounds() {
        Bench.due("shakes(1)", fresh().shakes(1), 5);
        Bench.due("shakes(20)", fresh().shakes(20), 5);
        Bench.bad("shakes(0)", x -> x.shakes(0));
        Bench.bad("shakes(21)", x -> x.shakes(21));
        Bench.bad("shakes(-1)", x -> x.shakes(-1));
        Bench.bad("shakes(lowest)", x -> x.shakes(Bench.LOWEST));
        Bench.bad("shakes(highest)", x -> x.shakes(Bench.HIGHEST));
        Bench.refused("shakes(0), sand that moves", Bench.BAD, MotionBoundaryTest::fresh, x -> x.shakes(0));
        Bench.refused("shakes(21), sand that moves", Bench.BAD, MotionBoundaryTest::fresh, x -> x.shakes(21));
    }

    private static void shakesMany() {
        for (int n = 1; n <= 20; n++) {
            Counted singly = Bench.told(LONG);
            int sum = 0;
            for (int shake = 1; shake <= n; shake++) {
                int moved = singly.shakes(1);
                Bench.dueSo("shake " + shake, shake <= 11 ? moved > 0 : moved == Bench.STATE);
                sum += Math.max(0, moved);
            }
            Counted x = Bench.told(LONG);
            Bench.due("shakes(" + n + ")", x.shakes(n), sum);
            Bench.due("shakes(" + n + ") is one thing that is DONE", x.count(7), 2);
            Bench.due("lies() behind " + n, x.lies(), Math.max(0, 11 - n));
            Bench.dueSo("as by single shakes, " + n, Arrays.equals(grains(x), grains(singly)));
            Bench.due("undo() of shakes(" + n + ")", x.undo(), 1);
            Bench.due("the most grains undone", x.count(3), 1);
        }
    }

    private static int[] grains(Counted x) {
        int[] grains = new int[24];
        for (int at = 0; at < 24; at++) {
            grains[at] = x.cell(at % 4, at / 4, 2);
        }
        return grains;
    }

    private static void shakesNone() {
        Bench.refused("shakes(1) of what lies", Bench.STATE, () -> {
            Counted x = Bench.busy();
            x.shakes(20);
            return x;
        }, x -> x.shakes(1));
        Bench.refused("shakes(20) of still cells", Bench.STATE, () -> Bench.told(CALM), x -> x.shakes(20));
        Counted x = Bench.told(LONG);
        x.shakes(10);
        Bench.dueSo("the last shake that moves", x.shakes(20) > 0);
        Bench.due("the first that does not", x.shakes(20), Bench.STATE);
    }

    /** 99 is never come to: each shake takes a grain to less motion, so it goes over 35 sides at most. */
    private static void lies() {
        Bench.due("nothing moves", Bench.told(CALM).lies(), 0);
        Bench.due("one shake", fresh().lies(), 1);
        Counted x = Bench.told(LONG);
        for (int left = 11; left > 0; left--) {
            Bench.due("lies()", x.lies(), left);
            Bench.due("lies() again", x.lies(), left);
            Bench.dueSo("shakes(1)", x.shakes(1) > 0);
        }
        Bench.due("lies() of what lies", x.lies(), 0);
        Bench.due("shakes(1) of what lies", x.shakes(1), Bench.STATE);
        x.sands();
        Bench.due("lies() of sand laid anew", x.lies(), 11);
    }

    // ---- still cells, the figure

    private static void stillWhat() {
        Counted x = Bench.told(ONE_STILL);
        Bench.due("still(0)", x.still(0), 1);
        Bench.due("still(1)", x.still(1), 35);
        Bench.due("still(2)", x.still(2), Bench.NONE);
        Bench.bad("still(-1)", y -> y.still(-1));
        Bench.bad("still(3)", y -> y.still(3));
        Bench.bad("still(lowest)", y -> y.still(Bench.LOWEST));
        Bench.bad("still(highest)", y -> y.still(Bench.HIGHEST));
    }

    private static void stillNoneToAll() {
        Bench.due("none", fresh().still(0), 0);
        for (int w = 2; w <= 6; w++) {
            for (int h = 2; h <= 6; h++) {
                Bench.due("all", Bench.told("plate " + w + " " + h + ";" + CALM).still(0), w * h);
            }
        }
    }

    private static void likeness() {
        String rows = "row 111;row 111;row 111;";
        Bench.due("none still, no figure", Bench.told("limit 0;").still(1), 9);
        Bench.due("none still, all of the figure", Bench.told("limit 0;" + rows).still(1), 0);
        Bench.due("all still, no figure", Bench.told(CALM).still(1), 0);
        Bench.due("all still, all of the figure", Bench.told(CALM + rows).still(1), 9);
        Counted x = Bench.told(ONE_STILL);
        Bench.due("one still, no figure", x.still(1), 35);
        x.draws(5, 5, 1);
        Bench.due("one still, it is the figure", x.still(1), 36);
        x.draws(0, 0, 1);
        Bench.due("one still, one more drawn", x.still(1), 35);
    }

    private static void apartNone() {
        Bench.due("no figure, none still", Bench.told("limit 0;").still(2), Bench.NONE);
        Bench.due("a figure, none still", Bench.told("limit 0;row 111;row 111;row 111;").still(2), Bench.NONE);
        Bench.due("no figure, all still", Bench.told(CALM).still(2), Bench.NONE);
        Counted x = Bench.told(ONE_STILL);
        Bench.due("no figure, one still", x.still(2), Bench.NONE);
        x.draws(3, 3, 1);
        Bench.due("one of the figure, one still", x.still(2), 8);
        x.draws(3, 3, 0);
        Bench.due("no figure again", x.still(2), Bench.NONE);
    }

    private static void apart() {
        Bench.due("all still, all of the figure", Bench.told(CALM + "row 111;row 111;row 111;").still(2), 0);
        Counted x = Bench.told(ONE_STILL + "row 100000;");
        Bench.due("from corner to corner", x.still(2), 20);
        x.draws(5, 5, 1);
        Bench.due("and the still cell itself", x.still(2), 10);
        x.draws(0, 0, 0);
        Bench.due("the same cell", x.still(2), 0);
        x.draws(5, 5, 0);
        x.draws(4, 5, 1);
        Bench.due("beside it", x.still(2), 2);
        x.draws(5, 4, 1);
        Bench.due("beside it and above it", x.still(2), 3);
        x.draws(4, 5, 0);
        x.draws(5, 4, 0);
        x.draws(5, 0, 1);
        Bench.due("the column's other end", x.still(2), 10);
        x.draws(5, 0, 0);
        x.draws(0, 5, 1);
        Bench.due("the row's other end", x.still(2), 10);
    }

    // ---- best

    private static void bestWhat() {
        Counted x = Bench.told("edge 0;stiff 5;limit 0;drive 1 0;row 101;row 010;");
        Bench.due("best(0)", x.best(0), 2);
        Bench.due("best(1)", x.best(1), 9);
        Bench.bad("best(-1)", y -> y.best(-1));
        Bench.bad("best(2)", y -> y.best(2));
        Bench.bad("best(lowest)", y -> y.best(Bench.LOWEST));
        Bench.bad("best(highest)", y -> y.best(Bench.HIGHEST));
    }

    /** Asks for BEST, and for LIKENESS by each PERIOD. */
    private static void bestIsDue(String text, int period, int likeness, int... alike) {
        Counted x = Bench.told(text);
        Bench.due("'" + text + "', best(0)", x.best(0), period);
        Bench.due("'" + text + "', best(1)", x.best(1), likeness);
        for (int p = 2; p <= 20; p++) {
            x.sets(4, p);
            boolean isAlike = false;
            for (int one : alike) {
                isAlike |= one == p;
            }
            Bench.dueSo("'" + text + "', likeness by " + p, isAlike ? x.still(1) == likeness : x.still(1) < likeness);
            Bench.due("'" + text + "', best(0) while the period is " + p, x.best(0), period);
        }
    }

    private static void bestFirstAndLast() {
        bestIsDue("edge 0;stiff 1;limit 0;drive 1 0;row 100;row 101;row 100;", 2, 7, 2);
        bestIsDue("edge 0;stiff 7;limit 50;row 101;row 010;row 100;", 20, 8, 20);
    }

    private static void bestOfSeveral() {
        bestIsDue("edge 0;stiff 7;limit 50;row 101;row 011;row 001;", 2, 5, 2, 20);
        bestIsDue("edge 0;stiff 4;limit 44;drive 1 0;row 001;row 000;row 101;", 19, 8, 19, 20);
        int[] all = {2, 3, 4, 5, 6, 7, 8, 9, 10, 11, 12, 13, 14, 15, 16, 17, 18, 19, 20};
        bestIsDue(CALM, 2, 0, all);
        bestIsDue(CALM + "row 111;row 111;row 111;", 2, 9, all);
    }

    // ---- which period

    private static void seesBounds() {
        Counted x = fresh();
        Bench.due("sees(0, 0)", x.sees(0, 0), 1);
        Bench.due("sees(35, 1)", x.sees(35, 1), 2);
        Bench.due("sees(0, 1)", x.sees(0, 1), 3);
        Bench.due("sees(35, 0)", x.sees(35, 0), 4);
        Bench.bad("sees(-1, 0)", y -> y.sees(-1, 0));
        Bench.bad("sees(36, 0)", y -> y.sees(36, 0));
        Bench.bad("sees(0, -1)", y -> y.sees(0, -1));
        Bench.bad("sees(0, 2)", y -> y.sees(0, 2));
        Bench.bad("sees(lowest, 1)", y -> y.sees(Bench.LOWEST, 1));
        Bench.bad("sees(highest, 1)", y -> y.sees(Bench.HIGHEST, 1));
        Bench.bad("sees(0, lowest)", y -> y.sees(0, Bench.LOWEST));
        Bench.bad("sees(0, highest)", y -> y.sees(0, Bench.HIGHEST));
    }

    private static Counted seenAll() {
        Counted x = Bench.busy();
        x.forget();
        for (int seen = 0; seen < 6; seen++) {
            x.sees(2, 1);
        }
        return x;
    }

    private static void seesFull() {
        Counted x = Bench.told(PERIODS);
        for (int n = 1; n <= 6; n++) {
            Bench.due("sees, the " + n + ".", x.sees(n == 6 ? 1 : 0, n == 6 ? 0 : 1), n);
        }
        Bench.due("the sixth counts", x.which(0), 1);
        Bench.due("the seventh", x.sees(8, 0), Bench.FULL);
        Bench.due("the seventh does not count", x.which(0), 1);
        Bench.refused("sees(0, 0), the seventh", Bench.FULL, MotionBoundaryTest::seenAll, y -> y.sees(0, 0));
        Bench.refused("sees(35, 1), the seventh", Bench.FULL, MotionBoundaryTest::seenAll, y -> y.sees(35, 1));
        Bench.refused("sees(36, 1), the seventh", Bench.BAD, MotionBoundaryTest::seenAll, y -> y.sees(36, 1));
        Bench.refused("sees(0, 2), the seventh", Bench.BAD, MotionBoundaryTest::seenAll, y -> y.sees(0, 2));
    }

    private static void forgets() {
        Counted x = fresh();
        Bench.due("forget() of nothing", x.forget(), 0);
        x.sees(8, 1);
        Bench.due("forget() of one", x.forget(), 1);
        Bench.due("forget() again", x.forget(), 0);
        x = seenAll();
        Bench.due("forget() of all", x.forget(), 6);
        Bench.due("SEEN behind forget()", x.count(5), 0);
        Bench.due("which(0) behind forget()", x.which(0), 19);
        Bench.due("sees behind forget()", x.sees(0, 0), 1);
        Bench.due("known behind forget()", x.count(7), 6);
        Bench.changesNothing("forget() of nothing", () -> {
            Counted y = Bench.busy();
            y.forget();
            return y;
        }, Counted::forget);
    }

    private static void whichWhat() {
        Bench.due("which(0)", fresh().which(0), 19);
        Bench.due("which(1)", fresh().which(1), 2);
        Bench.bad("which(-1)", x -> x.which(-1));
        Bench.bad("which(2)", x -> x.which(2));
        Bench.bad("which(lowest)", x -> x.which(Bench.LOWEST));
        Bench.bad("which(highest)", x -> x.which(Bench.HIGHEST));
    }

    /** seen: pairs of a cell and whether it was still. */
    private static Counted seen(String text, int... seen) {
        Counted x = Bench.told(text);
        for (int i = 0; i < seen.length; i += 2) {
            x.sees(seen[i], seen[i + 1]);
        }
        return x;
    }

    private static void whichIsDue(int many, int least, int look, int... seen) {
        Counted x = seen(PERIODS, seen);
        String name = "seen " + Arrays.toString(seen);
        Bench.due(name + ", which(0)", x.which(0), many);
        Bench.due(name + ", which(1)", x.which(1), least);
        Bench.due(name + ", look()", x.look(), look);
    }

    private static void whichNoneToAll() {
        Counted x = Bench.told(PERIODS);
        for (int period = 2; period <= 20; period++) {
            x.sets(4, period);
            for (int at = 0; at < 9; at++) {
                Bench.due(at + " by " + period, x.cell(at % 3, at / 3, 1), STILL[period - 2].charAt(at) - '0');
            }
        }
        whichIsDue(19, 2, 4);
        whichIsDue(4, 2, 1, 0, 1);
        whichIsDue(15, 6, 4, 0, 0);
        whichIsDue(5, 2, 1, 4, 1);
        whichIsDue(14, 6, 6, 4, 0);
        whichIsDue(1, 5, Bench.NONE, 0, 1, 1, 0);
        whichIsDue(1, 8, Bench.NONE, 0, 0, 4, 1);
        whichIsDue(1, 20, Bench.NONE, 0, 0, 8, 1);
        whichIsDue(0, Bench.NONE, Bench.NONE, 0, 0, 1, 1);
        whichIsDue(0, Bench.NONE, Bench.NONE, 0, 0, 0, 1);
        whichIsDue(3, 2, 0, 0, 1, 1, 1, 2, 1, 3, 1, 4, 1, 8, 1);
        x = seen("edge 0;stiff 4;limit 0;", 2, 1);
        Bench.due("the first period alone, which(0)", x.which(0), 1);
        Bench.due("the first period alone, which(1)", x.which(1), 2);
    }

    private static void whichOffThePlate() {
        for (int w = 2; w <= 6; w++) {
            for (int h = 2; h <= 6; h++) {
                String text = "plate " + w + " " + h + ";" + CALM;
                Bench.due("the last cell, still", seen(text, w * h - 1, 1).which(0), 19);
                Bench.due("the last cell, not still", seen(text, w * h - 1, 0).which(0), 0);
                if (w * h < 36) {
                    Bench.due("behind the last cell, still", seen(text, w * h, 1).which(0), 0);
                    Bench.due("behind the last cell, not still", seen(text, w * h, 0).which(0), 0);
                    Bench.due("behind the last cell, the least", seen(text, w * h, 1).which(1), Bench.NONE);
                    Bench.due("behind the last cell, look()", seen(text, w * h, 0).look(), Bench.NONE);
                }
            }
        }
    }

    private static void whichWhenAsked() {
        Counted x = seen("plate 2 2;" + CALM, 4, 1);
        Bench.due("not on the plate", x.which(0), 0);
        Bench.tell(x, CALM);
        Bench.due("on the plate now", x.which(0), 19);
        x.sets(3, 99);
        x.sets(5, 0);
        Bench.dueSo("by another force and limit", x.which(0) < 19);
        x.undo();
        x.undo();
        Bench.due("undone", x.which(0), 19);
        x.undo();
        Bench.due("the plate undone", x.which(0), 0);
        x = seen(PERIODS, 0, 1);
        for (int period = 2; period <= 20; period++) {
            x.sets(4, period);
            Bench.due("which(0), whatever the period is", x.which(0), 4);
            Bench.due("look(), whatever the period is", x.look(), 1);
        }
    }

    private static void lookNone() {
        Bench.due("none can be", seen(PERIODS, 0, 0, 0, 1).look(), Bench.NONE);
        Bench.due("one can be", seen(PERIODS, 0, 0, 8, 1).look(), Bench.NONE);
        Counted x = seen("edge 0;stiff 7;limit 58;drive 1 0;", 0, 1, 8, 1, 4, 1);
        Bench.due("two can be: which(0)", x.which(0), 2);
        Bench.due("two can be: which(1)", x.which(1), 2);
        Bench.due("two can be: look()", x.look(), 1);
        x.sees(1, 0);
        Bench.due("one can be now: which(1)", x.which(1), 20);
        Bench.due("one can be now: look()", x.look(), Bench.NONE);
        x = seen("edge 0;stiff 4;limit 44;drive 1 0;", 0, 0, 8, 1);
        Bench.due("two that are alike: which(0)", x.which(0), 2);
        Bench.due("two that are alike: which(1)", x.which(1), 19);
        Bench.due("two that are alike: look()", x.look(), 0);
    }

    private static void lookLowest() {
        // still by 5 of 19 each: 4, 6 and 8; the others by fewer
        Bench.due("the lowest of three", Bench.told(PERIODS).look(), 4);
        // still by 1 of 14 each: 6 and 8; the others by none
        Bench.due("the lowest of two", seen(PERIODS, 4, 0).look(), 6);
        Bench.due("the last cell", Bench.told("edge 0;stiff 3;limit 1;").look(), 8);
        Bench.due("all alike, all still", Bench.told(CALM).look(), 0);
        Bench.due("all alike, none still", Bench.told("force 99;limit 0;stiff 4;loss 20;").look(), 0);
    }

    /** By how many periods each cell is still, and the cell where that comes nearest to half of them. */
    private static void lookIsDue(String text, int look, int... stillBy) {
        Bench.due("'" + text + "', look()", Bench.told(text).look(), look);
        for (int at = 0; at < stillBy.length; at++) {
            Counted x = Bench.told(text);
            int columns = x.count(0);
            int many = 0;
            for (int period = 2; period <= 20; period++) {
                x.sets(4, period);
                many += x.cell(at % columns, at / columns, 1);
            }
            Bench.due("'" + text + "', by how many " + at + " is still", many, stillBy[at]);
        }
    }

    private static void lookAtHalf() {
        lookIsDue("edge 0;stiff 7;limit 39;", 2, 1, 2, 13, 2, 1, 5, 13, 5, 2);
        lookIsDue("edge 0;stiff 7;limit 43;", 5, 1, 3, 14, 3, 2, 6, 14, 6, 2);
        lookIsDue("stiff 1;limit 41;", 8, 1, 7, 8, 7, 6, 7, 8, 7, 9);
        lookIsDue("stiff 1;limit 29;drive 1 0;", 0, 6, 1, 6, 5, 6, 5, 6, 6, 6);
        lookIsDue("plate 6 6;stiff 3;force 20;limit 72;", 35);
        Bench.due("the last of 36, seen", seen("plate 6 6;" + CALM, 35, 1).look(), 0);
    }

    private static void askingChangesNothing() {
        for (int what = 0; what < 8; what++) {
            int number = what;
            Bench.changesNothing("count(" + what + ")", Bench::busy, x -> x.count(number));
            Bench.changesNothing("setting(" + what + ")", Bench::busy, x -> x.setting(number));
            Bench.changesNothing("cell(1, 1, " + what + ")", Bench::busy, x -> x.cell(1, 1, number));
            Bench.changesNothing("still(" + what + ")", Bench::busy, x -> x.still(number));
            Bench.changesNothing("best(" + what + ")", Bench::busy, x -> x.best(number));
            Bench.changesNothing("which(" + what + ")", Bench::busy, x -> x.which(number));
        }
        Bench.changesNothing("height(2, 1, 60)", Bench::busy, x -> x.height(2, 1, 60));
        Bench.changesNothing("lies()", Bench::busy, Counted::lies);
        Bench.changesNothing("look()", Bench::busy, Counted::look);
    }

    /** What was worked out ahead of a change must not be answered behind it, by the first period or the last. */
    private static void askedAnew() {
        String[] numbers = {"plate 3 3;", "edge 1;", "stiff 4;", "loss 8;", "force 40;", "period 2;", "limit 10;",
            "drive 0 0;"};
        String[] others = {"plate 4 3;", "edge 0;", "stiff 5;", "loss 9;", "force 41;", "period 20;", "limit 60;",
            "drive 1 0;"};
        String all = String.join("", numbers);
        for (int i = 0; i < numbers.length; i++) {
            String changed = all.replace(numbers[i], others[i]);
            askedBehind(all, changed);
            askedBehind(changed, all);
        }
        askedBehind(all, all.replace("plate 3 3;", "plate 3 4;"));
        askedBehind(all, "edge 0;stiff 5;loss 9;force 41;drive 1 0;period 2;");
        askedBehind(all.replace("plate 3 3;", "plate 3 4;"), all.replace("plate 3 3;", "plate 4 3;"));
    }

    private static void askedBehind(String first, String then) {
        Counted x = Bench.told(first);
        Bench.asked(x);
        Bench.tell(x, then);
        Counted same = Bench.told(first);
        Bench.tell(same, then);
        Bench.dueSo("'" + then + "' behind '" + first + "'", Arrays.equals(Bench.asked(x), Bench.asked(same)));
        x.sets(4, 19);
        same.sets(4, 19);
        x.sets(4, 20);
        same.sets(4, 20);
        Bench.due("by the last period", x.cell(2, 2, 0), same.cell(2, 2, 0));
    }
}
