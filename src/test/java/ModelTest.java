import java.util.ArrayDeque;
import java.util.ArrayList;
import java.util.Deque;
import java.util.List;
import java.util.Random;
import java.util.regex.Matcher;
import java.util.regex.Pattern;

/**
 * Random runs of calls, each answer held against a second, slow reading of the document that
 * keeps no motions, no rows and no state but plain copies. The seeds are fixed.
 */
public final class ModelTest {
    private static final int RUNS = 600;
    private static final int CALLS = 512;

    public static void main(String[] args) {
        for (int run = 0; run < RUNS; run++) {
            if (!new Run(run).agrees()) {
                System.exit(1);
            }
        }
        System.out.println("the model agrees in " + RUNS + " runs of " + CALLS + " calls");
    }

    /** One object and its model, driven by one seed. */
    private static final class Run {
        private final int seed;
        private final Random random;
        private final SandPlates real = new SandPlates();
        private final Model model = new Model();
        private final List<String> calls = new ArrayList<>();

        Run(int seed) {
            this.seed = seed;
            this.random = new Random(seed);
        }

        boolean agrees() {
            while (calls.size() < CALLS) {
                boolean same = random.nextInt(12) == 0 ? tellSomething() : callSomething();
                if (!same) {
                    return false;
                }
            }
            return true;
        }

        private boolean check(String call, int got, int want) {
            calls.add(call);
            if (calls.size() > CALLS) {
                throw new IllegalStateException("nothing is promised behind " + CALLS + " calls");
            }
            if (got == want) {
                return true;
            }
            System.out.println("seed " + seed + ": " + String.join("; ", calls));
            System.out.println("  answered " + got + ", the model says " + want);
            return false;
        }

        private boolean tellSomething() {
            boolean clears = random.nextInt(3) > 0 && calls.size() < CALLS - 1;
            if (clears && !check("clear()", real.clear(), model.clear())) {
                return false;
            }
            for (char letter : someText().toCharArray()) {
                if (calls.size() >= CALLS - 1) {
                    break;
                }
                if (!check("type(" + (int) letter + ")", real.type(letter), model.type(letter))) {
                    return false;
                }
            }
            return check("tells()", real.tells(), model.tells());
        }

        private String someText() {
            StringBuilder text = new StringBuilder();
            int w = 2 + random.nextInt(5);
            int h = 2 + random.nextInt(5);
            if (random.nextInt(4) > 0) {
                text.append("plate ").append(w).append(' ').append(h).append(';');
            } else {
                w = 3;
                h = 3;
            }
            for (int items = random.nextInt(8); items > 0; items--) {
                text.append(someItem(w, h));
            }
            for (int spoils = random.nextInt(4) - 1; spoils > 0 && text.length() > 0; spoils--) {
                int place = random.nextInt(text.length());
                switch (random.nextInt(3)) {
                    case 0: text.deleteCharAt(place); break;
                    case 1: text.insert(place, someLetter()); break;
                    default: text.setCharAt(place, someLetter());
                }
            }
            return text.toString();
        }

        private char someLetter() {
            String likely = "  0123459;;aerow#";
            return random.nextInt(9) == 0 ? (char) random.nextInt(256) : likely.charAt(random.nextInt(likely.length()));
        }

        private String someItem(int w, int h) {
            switch (random.nextInt(9)) {
                case 0: return "edge " + random.nextInt(random.nextInt(8) == 0 ? 3 : 2) + ";";
                case 1: return "stiff " + (1 + random.nextInt(7)) + ";";
                case 2: return "loss " + (2 + random.nextInt(19)) + ";";
                case 3: return "force" + (1 + random.nextInt(99)) + ";";
                case 4: return "period " + (2 + random.nextInt(19)) + " ;";
                case 5: return "limit " + random.nextInt(random.nextInt(9) == 0 ? 102 : 100) + ";";
                case 6: return "drive " + random.nextInt(w) + " " + random.nextInt(h) + ";";
                default:
                    StringBuilder row = new StringBuilder("row ");
                    for (int x = 0; x < w; x++) {
                        row.append(random.nextInt(2));
                    }
                    return row.append(';').toString();
            }
        }

        /** Mostly 0 up to, without, beyond; at times a little or far outside. */
        private int some(int beyond) {
            switch (random.nextInt(40)) {
                case 0: return -1;
                case 1: return beyond;
                case 2: return random.nextInt();
                default: return random.nextInt(beyond);
            }
        }

        private boolean callSomething() {
            int a = some(6);
            int b = some(6);
            int c = some(4);
            switch (random.nextInt(24)) {
                case 0: return check("type(" + a + ")", real.type(a), model.type(a));
                case 1: return check("shakes(" + c + ")", real.shakes(c), model.shakes(c));
                case 2: return check("shakes(20)", real.shakes(20), model.shakes(20));
                case 3: return set(a, some(21));
                case 4: return set(5, some(100));
                case 5: return set(4, some(21));
                case 6: return check("drives(" + a + ", " + b + ")", real.drives(a, b), model.drives(a, b));
                case 7: return check("draws(" + a + ", " + b + ", 1)", real.draws(a, b, 1), model.draws(a, b, 1));
                case 8: return check("draws(" + a + ", " + b + ", " + c + ")", real.draws(a, b, c), model.draws(a, b, c));
                case 9: return check("sands()", real.sands(), model.sands());
                case 10:
                case 11: return check("undo()", real.undo(), model.undo());
                case 12: return check("cell(" + a + ", " + b + ", " + c + ")", real.cell(a, b, c), model.cell(a, b, c));
                case 13: return check("setting(" + a + ")", real.setting(a), model.setting(a));
                case 14: return askHeight(a, b, some(61));
                case 15: return check("still(" + c + ")", real.still(c), model.still(c));
                case 16: return check("best(" + c + ")", real.best(c), model.best(c));
                case 17: return check("lies()", real.lies(), model.lies());
                case 18: return see(some(random.nextInt(4) == 0 ? 36 : 6), some(2));
                case 19: return random.nextInt(3) > 0 || check("forget()", real.forget(), model.forget());
                case 20: return check("which(" + c + ")", real.which(c), model.which(c));
                case 21: return check("look()", real.look(), model.look());
                case 22: return image(some(2));
                default: int what = some(8);
                    return check("count(" + what + ")", real.count(what), model.count(what));
            }
        }

        private boolean set(int what, int n) {
            return check("sets(" + what + ", " + n + ")", real.sets(what, n), model.sets(what, n));
        }

        private boolean askHeight(int x, int y, int n) {
            return check("height(" + x + ", " + y + ", " + n + ")", real.height(x, y, n), model.height(x, y, n));
        }

        private boolean see(int cell, int is) {
            return check("sees(" + cell + ", " + is + ")", real.sees(cell, is), model.sees(cell, is));
        }

        private boolean image(int image) {
            if (random.nextInt(4) == 0) {
                return check("back(" + image + ")", real.back(image), model.back(image));
            }
            return check("keep(" + image + ")", real.keep(image), model.keep(image));
        }
    }

    /** All that section 1 tells but THE TEXT; copied whole wherever the document keeps it. */
    private static final class State {
        int w = 3;
        int h = 3;
        int[] set = {1, 4, 8, 40, 8, 10};
        int driver = 0;
        boolean[] figure = new boolean[9];
        int[] grains = {1, 1, 1, 1, 1, 1, 1, 1, 1};

        State copy() {
            State s = new State();
            s.w = w;
            s.h = h;
            s.set = set.clone();
            s.driver = driver;
            s.figure = figure.clone();
            s.grains = grains.clone();
            return s;
        }

        boolean on(int x, int y) {
            return 0 <= x && x < w && 0 <= y && y < h;
        }
    }

    /** The document, read a second time. */
    private static final class Model {
        private static final int[] LOW = {0, 1, 2, 1, 2, 0};
        private static final int[] HIGH = {1, 7, 20, 99, 20, 99};
        private static final String[] NAMES = {"edge", "stiff", "loss", "force", "period", "limit"};

        private State now = new State();
        private final Deque<State> past = new ArrayDeque<>();
        private final State[] images = new State[2];
        private String text = "";
        private final List<int[]> seen = new ArrayList<>();

        int type(int letter) {
            if (letter < 0 || letter > 255) {
                return -1;
            }
            if (text.length() == 120) {
                return -3;
            }
            text += (char) letter;
            return text.length();
        }

        int clear() {
            int had = text.length();
            text = "";
            return had;
        }

        int tells() {
            List<String> tokens = new ArrayList<>();
            List<Integer> places = new ArrayList<>();
            Matcher matcher = Pattern.compile("[a-z]+|[0-9]+|[^ ]", Pattern.DOTALL).matcher(text);
            while (matcher.find()) {
                tokens.add(matcher.group());
                places.add(matcher.start());
            }
            tokens.add("");
            places.add(text.length());
            State s = new State();
            int items = 0;
            int at = 0;
            int rows = 0;
            boolean plateMay = true;
            while (!tokens.get(at).isEmpty()) {
                String word = tokens.get(at);
                int setting = List.of(NAMES).indexOf(word);
                List<Integer> numbers = new ArrayList<>();
                int due = 0;
                if (word.equals("plate") && plateMay) {
                    due = 2;
                    plateMay = false;
                } else if (setting >= 0) {
                    due = 1;
                } else if (word.equals("drive")) {
                    due = 2;
                    plateMay = false;
                } else if (word.equals("row") && rows < s.h) {
                    plateMay = false;
                    at++;
                    String f = tokens.get(at);
                    if (!f.matches("[01]{" + s.w + "}")) {
                        return -10 - places.get(at);
                    }
                    for (int x = 0; x < s.w; x++) {
                        s.figure[rows * s.w + x] = f.charAt(x) == '1';
                    }
                    rows++;
                } else {
                    return -10 - places.get(at);
                }
                for (int i = 0; i < due; i++) {
                    at++;
                    int low = setting >= 0 ? LOW[setting] : word.equals("plate") ? 2 : 0;
                    int high = setting >= 0 ? HIGH[setting] : word.equals("plate") ? 6 : i == 0 ? s.w - 1 : s.h - 1;
                    String f = tokens.get(at);
                    if (!f.matches("0|[1-9][0-9]?") || Integer.parseInt(f) < low || Integer.parseInt(f) > high) {
                        return -10 - places.get(at);
                    }
                    numbers.add(Integer.parseInt(f));
                }
                at++;
                if (!tokens.get(at).equals(";")) {
                    return -10 - places.get(at);
                }
                at++;
                items++;
                if (word.equals("plate")) {
                    s.w = numbers.get(0);
                    s.h = numbers.get(1);
                    s.figure = new boolean[s.w * s.h];
                    s.grains = new int[s.w * s.h];
                    java.util.Arrays.fill(s.grains, 1);
                } else if (word.equals("drive")) {
                    s.driver = s.w * numbers.get(1) + numbers.get(0);
                } else if (setting >= 0) {
                    s.set[setting] = numbers.get(0);
                }
            }
            done();
            now = s;
            text = "";
            return items;
        }

        private void done() {
            past.addLast(now.copy());
            if (past.size() > 6) {
                past.removeFirst();
            }
        }

        private int[][] run(int period, int steps) {
            int w = now.w;
            int h = now.h;
            int[][] heights = new int[steps + 1][w * h];
            int[] speed = new int[w * h];
            for (int t = 0; t < steps; t++) {
                int[] old = heights[t];
                for (int c = 0; c < w * h; c++) {
                    int x = c % w;
                    int y = c / w;
                    int pull = 0;
                    int[][] sides = {{x, y - 1}, {x + 1, y}, {x, y + 1}, {x - 1, y}};
                    for (int[] side : sides) {
                        int other = now.on(side[0], side[1]) ? old[side[1] * w + side[0]] : now.set[0] == 1 ? old[c] : 0;
                        pull += other - old[c];
                    }
                    speed[c] += now.set[1] * pull / 16;
                    if (c == now.driver) {
                        speed[c] += (t % period < period / 2 ? 1 : -1) * now.set[3];
                    }
                    speed[c] -= speed[c] / now.set[2];
                    heights[t + 1][c] = Math.min(9999, Math.max(-9999, old[c] + speed[c]));
                }
            }
            return heights;
        }

        private int[] motion(int period) {
            int[][] heights = run(period, 30 + period);
            int[] motion = new int[now.w * now.h];
            for (int c = 0; c < motion.length; c++) {
                int most = Integer.MIN_VALUE;
                int least = Integer.MAX_VALUE;
                for (int t = 30; t <= 29 + period; t++) {
                    most = Math.max(most, heights[t + 1][c]);
                    least = Math.min(least, heights[t + 1][c]);
                }
                motion[c] = most - least;
            }
            return motion;
        }

        private boolean[] stills(int period) {
            int[] motion = motion(period);
            boolean[] stills = new boolean[motion.length];
            for (int c = 0; c < motion.length; c++) {
                stills[c] = motion[c] <= now.set[5];
            }
            return stills;
        }

        /** The grains behind one shake; the last element is how many were moved. */
        private int[] shaken(int[] grains) {
            int[] motion = motion(now.set[4]);
            int[] next = new int[motion.length + 1];
            System.arraycopy(grains, 0, next, 0, motion.length);
            for (int c = 0; c < motion.length; c++) {
                if (motion[c] <= now.set[5]) {
                    continue;
                }
                int x = c % now.w;
                int y = c / now.w;
                int[][] sides = {{x, y - 1}, {x + 1, y}, {x, y + 1}, {x - 1, y}};
                int goal = -1;
                for (int[] side : sides) {
                    int o = side[1] * now.w + side[0];
                    if (now.on(side[0], side[1]) && motion[o] < motion[c] && (goal < 0 || motion[o] < motion[goal])) {
                        goal = o;
                    }
                }
                if (goal >= 0) {
                    next[goal] += grains[c];
                    next[c] -= grains[c];
                    next[motion.length] += grains[c];
                }
            }
            return next;
        }

        int shakes(int n) {
            if (n < 1 || n > 20) {
                return -1;
            }
            int cells = now.w * now.h;
            int[] next = shaken(now.grains);
            if (next[cells] == 0) {
                return -2;
            }
            done();
            int moved = next[cells];
            for (int i = 1; i < n; i++) {
                next = shaken(next);
                moved += next[cells];
            }
            System.arraycopy(next, 0, now.grains, 0, cells);
            return moved;
        }

        int sets(int what, int n) {
            if (what < 0 || what > 5 || n < LOW[what] || n > HIGH[what]) {
                return -1;
            }
            int was = now.set[what];
            if (was == n) {
                return -2;
            }
            done();
            now.set[what] = n;
            return was;
        }

        int drives(int x, int y) {
            if (!now.on(x, y)) {
                return -1;
            }
            int was = now.driver;
            if (was == y * now.w + x) {
                return -2;
            }
            done();
            now.driver = y * now.w + x;
            return was;
        }

        int draws(int x, int y, int is) {
            if (!now.on(x, y) || is != 0 && is != 1) {
                return -1;
            }
            if (now.figure[y * now.w + x] == (is == 1)) {
                return -2;
            }
            done();
            now.figure[y * now.w + x] = is == 1;
            return count(2);
        }

        int sands() {
            int others = 0;
            for (int grains : now.grains) {
                others += grains == 1 ? 0 : 1;
            }
            if (others == 0) {
                return -2;
            }
            done();
            java.util.Arrays.fill(now.grains, 1);
            return others;
        }

        int undo() {
            if (past.isEmpty()) {
                return -2;
            }
            now = past.removeLast();
            return past.size();
        }

        int cell(int x, int y, int what) {
            if (!now.on(x, y) || what < 0 || what > 3) {
                return -1;
            }
            int c = y * now.w + x;
            return what == 0 ? motion(now.set[4])[c]
                : what == 1 ? (stills(now.set[4])[c] ? 1 : 0)
                : what == 2 ? now.grains[c]
                : now.figure[c] ? 1 : 0;
        }

        int setting(int what) {
            return what < 0 || what > 6 ? -1 : what == 6 ? now.driver : now.set[what];
        }

        int height(int x, int y, int n) {
            return !now.on(x, y) || n < 0 || n > 60 ? -1000000 : run(now.set[4], n)[n][y * now.w + x];
        }

        private int likeness(int period) {
            boolean[] stills = stills(period);
            int many = 0;
            for (int c = 0; c < stills.length; c++) {
                many += stills[c] && now.figure[c] || !stills[c] && !now.figure[c] ? 1 : 0;
            }
            return many;
        }

        private int nearest(boolean[] from, boolean[] to) {
            int all = 0;
            for (int a = 0; a < from.length; a++) {
                int best = 1000;
                for (int b = 0; b < to.length; b++) {
                    if (to[b]) {
                        best = Math.min(best, Math.abs(a % now.w - b % now.w) + Math.abs(a / now.w - b / now.w));
                    }
                }
                all += from[a] ? best : 0;
            }
            return all;
        }

        int still(int what) {
            if (what < 0 || what > 2) {
                return -1;
            }
            boolean[] stills = stills(now.set[4]);
            int many = 0;
            for (boolean is : stills) {
                many += is ? 1 : 0;
            }
            if (what == 0) {
                return many;
            }
            if (what == 1) {
                return likeness(now.set[4]);
            }
            return many == 0 || count(2) == 0 ? -9 : nearest(stills, now.figure) + nearest(now.figure, stills);
        }

        int best(int what) {
            if (what != 0 && what != 1) {
                return -1;
            }
            int best = 20;
            for (int period = 20; period >= 2; period--) {
                best = likeness(period) >= likeness(best) ? period : best;
            }
            return what == 0 ? best : likeness(best);
        }

        int lies() {
            int[] grains = shaken(now.grains);
            int cells = now.w * now.h;
            for (int shakes = 0; shakes <= 99; shakes++) {
                if (grains[cells] == 0) {
                    return shakes;
                }
                grains = shaken(grains);
            }
            return -9;
        }

        int sees(int cell, int is) {
            if (cell < 0 || cell > 35 || is != 0 && is != 1) {
                return -1;
            }
            if (seen.size() == 6) {
                return -3;
            }
            seen.add(new int[] {cell, is});
            return seen.size();
        }

        int forget() {
            int was = seen.size();
            seen.clear();
            return was;
        }

        private List<boolean[]> possible(List<Integer> periods) {
            List<boolean[]> all = new ArrayList<>();
            for (int period = 2; period <= 20; period++) {
                boolean[] stills = stills(period);
                boolean fits = true;
                for (int[] one : seen) {
                    fits &= one[0] < stills.length && stills[one[0]] == (one[1] == 1);
                }
                if (fits) {
                    all.add(stills);
                    periods.add(period);
                }
            }
            return all;
        }

        int which(int what) {
            if (what != 0 && what != 1) {
                return -1;
            }
            List<Integer> periods = new ArrayList<>();
            possible(periods);
            return what == 0 ? periods.size() : periods.isEmpty() ? -9 : periods.get(0);
        }

        int look() {
            List<boolean[]> all = possible(new ArrayList<>());
            if (all.size() < 2) {
                return -9;
            }
            int found = -1;
            int least = 1000;
            for (int c = 0; c < now.w * now.h; c++) {
                int yes = 0;
                for (boolean[] stills : all) {
                    yes += stills[c] ? 1 : 0;
                }
                int greater = Math.max(yes, all.size() - yes);
                if (greater < least) {
                    least = greater;
                    found = c;
                }
            }
            return found;
        }

        int keep(int image) {
            if (image != 0 && image != 1) {
                return -1;
            }
            images[image] = now.copy();
            return now.w * now.h;
        }

        int back(int image) {
            if (image != 0 && image != 1) {
                return -1;
            }
            if (images[image] == null) {
                return -2;
            }
            now = images[image].copy();
            past.clear();
            return now.w * now.h;
        }

        int count(int what) {
            int figure = 0;
            int most = 0;
            int empty = 0;
            for (int c = 0; c < now.w * now.h; c++) {
                figure += now.figure[c] ? 1 : 0;
                most = Math.max(most, now.grains[c]);
                empty += now.grains[c] == 0 ? 1 : 0;
            }
            int[] all = {now.w, now.h, figure, most, empty, seen.size(), text.length(), past.size()};
            return what < 0 || what > 7 ? -1 : all[what];
        }
    }
}
