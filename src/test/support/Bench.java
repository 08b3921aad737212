import java.util.Arrays;

/** What the boundary tests share: cases by name, objects to try calls on, and the look at what a call changed. */
final class Bench {
    static final int BAD = SandPlates.BAD;
    static final int STATE = SandPlates.STATE;
    static final int FULL = SandPlates.FULL;
    static final int NONE = SandPlates.NONE;
    static final int BAD_HEIGHT = -1000000;
    static final int LOWEST = Integer.MIN_VALUE;
    static final int HIGHEST = Integer.MAX_VALUE;

    private static String sentence = "";
    private static int cases = 0;
    private static int answers = 0;
    private static int wrong = 0;

    private Bench() {
    }

    interface Maker {
        Counted make();
    }

    interface Call {
        int on(Counted x);
    }

    /** One sentence of the document that names a boundary, and its test, which must ask for something. */
    static void holds(String named, Runnable test) {
        sentence = named;
        cases++;
        int before = answers;
        test.run();
        if (answers == before) {
            wrong++;
            System.out.println("[" + sentence + "] nothing was tested");
        }
    }

    static void end() {
        System.out.println(wrong == 0 ? cases + " boundary cases hold, by " + answers + " answers"
            : wrong + " answers are not as due");
        if (wrong != 0) {
            System.exit(1);
        }
    }

    static void due(String call, long got, long want) {
        answers++;
        if (got != want) {
            wrong++;
            System.out.println("[" + sentence + "] " + call + " answered " + got + ", due is " + want);
        }
    }

    static void dueSo(String what, boolean so) {
        due(what, so ? 1 : 0, 1);
    }

    // ---- objects

    static void type(Counted x, String text) {
        for (int i = 0; i < text.length(); i++) {
            x.type(text.charAt(i));
        }
    }

    /** Types a text into an empty TEXT and tells it. */
    static int tell(Counted x, String text) {
        x.clear();
        type(x, text);
        return x.tells();
    }

    static Counted told(String text) {
        Counted x = new Counted();
        int items = tell(x, text);
        if (items < 0) {
            wrong++;
            System.out.println("[" + sentence + "] '" + text + "' answered " + items);
        }
        return x;
    }

    /** Something everywhere that a call could change by mistake: 3 by 2, six to be undone, both images, a text. */
    static Counted busy() {
        Counted x = told("plate 3 2;row 101;row 010;edge 0;stiff 3;limit 20;drive 2 1;");
        x.sets(5, 5);
        x.keep(0);
        x.shakes(1);
        x.draws(1, 0, 1);
        x.drives(0, 1);
        x.keep(1);
        x.sets(4, 17);
        x.sets(3, 29);
        x.sets(5, 80);
        x.sees(2, 1);
        x.sees(4, 0);
        type(x, "edge 0;limit 7;");
        return x;
    }

    // ---- what a call changed

    /** The call answers so, and nothing has changed. */
    static void refused(String call, int answer, Maker maker, Call made) {
        due(call, made.on(maker.make()), answer);
        changesNothing(call, maker, made);
    }

    static void bad(String call, Call made) {
        refused(call, BAD, Bench::busy, made);
    }

    /** Objects made alike answer alike behind the call, in what can be seen and in what only later calls show. */
    static void changesNothing(String call, Maker maker, Call made) {
        Counted with = maker.make();
        Counted without = maker.make();
        made.on(with);
        same(call + ", all that can be asked", asked(with), asked(without));
        due(call + ", then tells()", with.tells(), without.tells());
        same(call + ", what the text tells", held(with), held(without));
        sameUndone(call, maker, made);
        for (int image = 0; image < 2; image++) {
            with = maker.make();
            without = maker.make();
            made.on(with);
            due(call + ", then back(" + image + ")", with.back(image), without.back(image));
            same(call + ", image " + image, held(with), held(without));
        }
    }

    private static void sameUndone(String call, Maker maker, Call made) {
        Counted with = maker.make();
        Counted without = maker.make();
        made.on(with);
        int left = 0;
        for (int undone = 0; undone < 8 && left >= 0; undone++) {
            left = without.undo();
            due(call + ", then undo()", with.undo(), left);
            same(call + ", undone", held(with), held(without));
        }
    }

    private static void same(String what, int[] got, int[] want) {
        answers++;
        if (!Arrays.equals(got, want)) {
            wrong++;
            System.out.println("[" + sentence + "] " + what + ": " + Arrays.toString(got) + ", due is "
                + Arrays.toString(want));
        }
    }

    /** What is held: counts, settings, grains and the figure. */
    static int[] held(Counted x) {
        int columns = x.count(0);
        int cells = columns * x.count(1);
        int[] all = new int[15 + 2 * cells];
        for (int what = 0; what < 8; what++) {
            all[what] = x.count(what);
        }
        for (int what = 0; what < 7; what++) {
            all[8 + what] = x.setting(what);
        }
        for (int at = 0; at < cells; at++) {
            all[15 + 2 * at] = x.cell(at % columns, at / columns, 2);
            all[16 + 2 * at] = x.cell(at % columns, at / columns, 3);
        }
        return all;
    }

    /** What is held, and all answers that follow from it. */
    static int[] asked(Counted x) {
        int[] held = held(x);
        int columns = held[0];
        int cells = columns * held[1];
        int[] all = Arrays.copyOf(held, held.length + 3 * cells + 9);
        int next = held.length;
        for (int at = 0; at < cells; at++) {
            all[next++] = x.cell(at % columns, at / columns, 0);
            all[next++] = x.cell(at % columns, at / columns, 1);
            all[next++] = x.height(at % columns, at / columns, 60);
        }
        for (int what = 0; what < 3; what++) {
            all[next++] = x.still(what);
        }
        for (int what = 0; what < 2; what++) {
            all[next++] = x.best(what);
            all[next++] = x.which(what);
        }
        all[next++] = x.lies();
        all[next] = x.look();
        return all;
    }
}
