import java.lang.reflect.Constructor;
import java.lang.reflect.Field;
import java.lang.reflect.Method;
import java.util.Arrays;

/**
 * "HEIGHT is SPEED more, but 9999 at most, -9999 at least": all plates, settings and drivers were tried, and no
 * RUN comes beyond 6752 in 60 STEPS. So this one test looks inside, at a STEP of heights that were put there.
 */
public final class HeightBoundTest {
    private static final int CELLS = 9;
    private static int wrong = 0;

    public static void main(String[] args) throws ReflectiveOperationException {
        // all heights are alike, so nothing pulls; a speed of 8 to 15 loses 1
        stepIsDue(9990, 9, 9998);
        stepIsDue(9990, 10, 9999);
        stepIsDue(9990, 11, 9999);
        stepIsDue(9999, 0, 9999);
        stepIsDue(9999, 1, 9999);
        stepIsDue(9999, -1, 9998);
        stepIsDue(9999, 20000, 9999);
        stepIsDue(-9990, -9, -9998);
        stepIsDue(-9990, -10, -9999);
        stepIsDue(-9990, -11, -9999);
        stepIsDue(-9999, 0, -9999);
        stepIsDue(-9999, -1, -9999);
        stepIsDue(-9999, 1, -9998);
        stepIsDue(-9999, -20000, -9999);
        System.out.println(wrong == 0 ? "heights are held" : wrong + " heights are not as due");
        if (wrong != 0) {
            System.exit(1);
        }
    }

    /** One STEP of the plate as at first; the driver, cell 0, is left out. */
    private static void stepIsDue(int height, int speed, int want) throws ReflectiveOperationException {
        Object plate = made("SandPlates$Plate");
        Object motions = made("SandPlates$Motions");
        int[] heights = row(motions, "heights");
        int[] speeds = row(motions, "speeds");
        Arrays.fill(heights, height);
        Arrays.fill(speeds, speed);
        Method step = motions.getClass().getDeclaredMethod("step", plate.getClass(), int.class, int.class);
        step.setAccessible(true);
        step.invoke(motions, plate, 8, 0);
        for (int at = 1; at < CELLS; at++) {
            due(height + " and " + speed + ", height of " + at, heights[at], want);
            due(height + " and " + speed + ", speed of " + at, speeds[at], speed - speed / 8);
        }
    }

    private static Object made(String name) throws ReflectiveOperationException {
        Constructor<?> constructor = Class.forName(name).getDeclaredConstructor();
        constructor.setAccessible(true);
        return constructor.newInstance();
    }

    private static int[] row(Object of, String name) throws ReflectiveOperationException {
        Field field = of.getClass().getDeclaredField(name);
        field.setAccessible(true);
        return (int[]) field.get(of);
    }

    private static void due(String what, int got, int want) {
        if (got != want) {
            wrong++;
            System.out.println(what + " is " + got + ", due is " + want);
        }
    }
}
