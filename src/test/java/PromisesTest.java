/** Each promise by itself: ordinary inputs, the edges that the document names, wrong inputs. */
public final class PromisesTest {
    private static int wrong = 0;

    private static void due(String call, long got, long want) {
        if (got != want) {
            wrong++;
            System.out.println(call + " answered " + got + ", due is " + want);
        }
    }

    private static void type(Counted x, String text) {
        for (int i = 0; i < text.length(); i++) {
            x.type(text.charAt(i));
        }
    }

    /** Types a text into an empty TEXT and tells it. */
    private static int tell(Counted x, String text) {
        x.clear();
        type(x, text);
        return x.tells();
    }

    private static Counted told(String text) {
        Counted x = new Counted();
        due("telling " + text, tell(x, text) < 0 ? 1 : 0, 0);
        return x;
    }

    private static void fault(String text, int place) {
        Counted x = new Counted();
        due("the fault of '" + text + "'", tell(x, text), -10 - place);
        due("letters behind the fault of '" + text + "'", x.count(6), text.length());
        due("undone behind the fault of '" + text + "'", x.count(7), 0);
    }

    private static void items(String text, int many) {
        due("the items of '" + text + "'", tell(new Counted(), text), many);
    }

    private static void settings(String name, Counted x, int... want) {
        for (int what = 0; what < want.length; what++) {
            due(name + ": setting(" + what + ")", x.setting(what), want[what]);
        }
    }

    private static void counts(String name, Counted x, int... want) {
        for (int what = 0; what < want.length; what++) {
            due(name + ": count(" + what + ")", x.count(what), want[what]);
        }
    }

    public static void main(String[] args) {
        newObject();
        typeAndClear();
        tellsItems();
        tellsFaults();
        tellsAnew();
        shakes();
        sets();
        drives();
        draws();
        sands();
        undo();
        cell();
        setting();
        height();
        still();
        best();
        lies();
        seesAndForget();
        which();
        look();
        keepAndBack();
        count();
        System.out.println(wrong == 0 ? "all promises are kept" : wrong + " answers are not as due");
        if (wrong != 0) {
            System.exit(1);
        }
    }

    private static void newObject() {
        Counted x = new Counted();
        settings("new", x, 1, 4, 8, 40, 8, 10, 0);
        counts("new", x, 3, 3, 0, 1, 0, 0, 0, 0);
        due("new: back(0)", x.back(0), SandPlates.STATE);
        due("new: back(1)", x.back(1), SandPlates.STATE);
        due("new: undo()", x.undo(), SandPlates.STATE);
        due("new: which(0)", x.which(0), 19);
        for (int y = 0; y < 3; y++) {
            for (int column = 0; column < 3; column++) {
                due("new: grains", x.cell(column, y, 2), 1);
                due("new: figure", x.cell(column, y, 3), 0);
            }
        }
    }

    private static void typeAndClear() {
        Counted x = new Counted();
        due("type(-1)", x.type(-1), SandPlates.BAD);
        due("type(256)", x.type(256), SandPlates.BAD);
        due("type(min)", x.type(Integer.MIN_VALUE), SandPlates.BAD);
        due("type(max)", x.type(Integer.MAX_VALUE), SandPlates.BAD);
        due("clear() of none", x.clear(), 0);
        for (int n = 1; n <= 120; n++) {
            due("type, letter " + n, x.type(n == 1 ? 0 : n == 2 ? 255 : ' '), n);
        }
        due("type, letter 121", x.type(' '), SandPlates.FULL);
        due("type(256), letter 121", x.type(256), SandPlates.BAD);
        due("letters when full", x.count(6), 120);
        due("clear() of all", x.clear(), 120);
        due("letters behind clear()", x.count(6), 0);
        due("type behind clear()", x.type('a'), 1);
        due("nothing to undo by type", x.count(7), 0);
        items(" ".repeat(120), 0);
    }

    private static void tellsItems() {
        items("", 0);
        items("   ", 0);
        items("edge 0;", 1);
        items("edge0;stiff7;", 2);
        items("  edge  0  ;  stiff  7  ;  ", 2);
        items("plate2 6;drive1 5;row10;row01;", 4);
        items("edge 0;stiff 1;plate 6 2;edge 1;edge 0;", 5);
        Counted x = told("plate 4 2;edge 0;stiff 7;loss 20;force 99;period 20;limit 99;drive 3 1;row 1001;");
        settings("told", x, 0, 7, 20, 99, 20, 99, 7);
        counts("told", x, 4, 2, 2, 1, 0, 0, 0, 1);
        due("told figure 0 0", x.cell(0, 0, 3), 1);
        due("told figure 1 0", x.cell(1, 0, 3), 0);
        due("told figure 3 0", x.cell(3, 0, 3), 1);
        due("told figure 3 1", x.cell(3, 1, 3), 0);
        settings("least", told("edge 0;stiff 1;loss 2;force 1;period 2;limit 0;"), 0, 1, 2, 1, 2, 0, 0);
        settings("told again", told("drive 1 1;edge 0;stiff 2;drive 2 0;stiff 3;edge 1;"), 1, 3, 8, 40, 8, 10, 2);
        x = told("row 111;row 000;row 101;");
        due("three rows: figure", x.count(2), 5);
        due("three rows: 1 2", x.cell(1, 2, 3), 0);
        due("three rows: 2 2", x.cell(2, 2, 3), 1);
    }

    private static void tellsFaults() {
        fault("plate 2 2;plate 2 2;", 10);
        fault("drive 0 0;plate 2 2;", 10);
        fault("row 000;plate 2 2;", 8);
        fault("row 000;row 000;row 000;row 000;", 24);
        fault("plate 3 2;row 000;row 000; row 000;", 27);
        fault("row 0000;", 4);
        fault("row 00;", 4);
        fault("row 012;", 4);
        fault("row ;", 4);
        fault("row a;", 4);
        fault("row 000 0;", 8);
        fault("plate 1 2;", 6);
        fault("plate 7 2;", 6);
        fault("plate 2 1;", 8);
        fault("plate 2 7;", 8);
        fault("plate 22;", 6);
        fault("plate 2;", 7);
        fault("plate 2 2 2;", 10);
        fault("drive 3 0;", 6);
        fault("drive 0 3;", 8);
        fault("plate 2 4;drive 2 0;", 16);
        fault("plate 2 4;drive 1 4;", 18);
        fault("edge 2;", 5);
        fault("stiff 0;", 6);
        fault("stiff 8;", 6);
        fault("loss 1;", 5);
        fault("loss 21;", 5);
        fault("force 0;", 6);
        fault("force 100;", 6);
        fault("period 1;", 7);
        fault("period 21;", 7);
        fault("limit 100;", 6);
        fault("limit 05;", 6);
        fault("limit 00;", 6);
        fault("limit 000;", 6);
        fault("drive 00 0;", 6);
        fault("loss 3", 6);
        fault("loss 3  ", 8);
        fault("loss", 4);
        fault("row 000", 7);
        fault("plate", 5);
        fault("los", 0);
        fault("losss 3;", 0);
        fault("plateplate 3 3;", 0);
        fault("edgez 0;", 0);
        fault("edge{0;", 4);
        fault("edge`0;", 4);
        fault("edge 0/;", 6);
        fault("edge 0:;", 6);
        fault("Loss 3;", 0);
        fault("loSs 3;", 0);
        fault(";", 0);
        fault("loss 3;;", 7);
        fault(" 5;", 1);
        fault("loss 3 edge 0;", 7);
        fault("loss 3edge 0;", 6);
        fault("loss edge;", 5);
        fault("loss 3,", 6);
        fault("loss\t3;", 4);
        fault("loss 3;" + (char) 0, 7);
        fault("loss 3;" + (char) 255, 7);
        fault("loss -3;", 5);
        fault("edge 0;".repeat(17) + "x", 119);
        fault("edge 0;".repeat(16) + "period 3", 120);
    }

    private static void tellsAnew() {
        Counted x = told("plate 4 2;edge 0;stiff 7;loss 20;force 99;period 20;limit 9;drive 3 1;row 1001;");
        x.shakes(1);
        x.keep(1);
        x.sees(3, 1);
        due("a fault changes nothing", tell(x, "plate 5 5;stiff 9;"), -26);
        counts("behind a fault", x, 4, 2, 2, x.count(3), x.count(4), 1, 18, 2);
        settings("behind a fault", x, 0, 7, 20, 99, 20, 9, 7);
        due("nothing told", tell(x, ""), 0);
        settings("nothing told", x, 1, 4, 8, 40, 8, 10, 0);
        counts("nothing told", x, 3, 3, 0, 1, 0, 1, 0, 3);
        due("the text is empty behind tells()", x.clear(), 0);
        due("images stay", x.back(1), 8);
        settings("images stay", x, 0, 7, 20, 99, 20, 9, 7);
    }

    private static void shakes() {
        Counted x = new Counted();
        due("shakes(0)", x.shakes(0), SandPlates.BAD);
        due("shakes(21)", x.shakes(21), SandPlates.BAD);
        due("shakes(min)", x.shakes(Integer.MIN_VALUE), SandPlates.BAD);
        due("undone by refused shakes", x.count(7), 0);
        due("shakes(20)", x.shakes(20), 5);
        due("shakes is one thing done", x.count(7), 1);
        due("shakes(1) of what lies", x.shakes(1), SandPlates.STATE);
        due("shakes(0) of what lies", x.shakes(0), SandPlates.BAD);
        due("undone by a refused shake", x.count(7), 1);
        x = told("limit 99;");
        int some = x.still(0);
        due("still cells keep their grains: some are still", some > 0 && some < 9 ? 1 : 0, 1);
        x.shakes(20);
        int grains = 0;
        for (int at = 0; at < 9; at++) {
            grains += x.cell(at % 3, at / 3, 2);
            if (x.cell(at % 3, at / 3, 1) == 1) {
                due("a still cell has grains", x.cell(at % 3, at / 3, 2) > 0 ? 1 : 0, 1);
            }
        }
        due("no grain is lost", grains, 9);
        x = told("force 1;limit 99;");
        due("all cells still", x.still(0), 9);
        due("shakes(1), all still", x.shakes(1), SandPlates.STATE);
        shakesByHand();
    }

    /** On a slack plate motion dies away from the driver: both neighbours of it move alike, the far cell least. */
    private static void shakesByHand() {
        String slack = "plate 2 2;limit 0;edge 0;stiff 1;loss 2;";
        Counted x = told(slack);
        int beside = x.cell(1, 0, 0);
        due("the plate is alike about its diagonal", x.cell(0, 1, 0), beside);
        due("the driver moves most", x.cell(0, 0, 0) > beside && beside > x.cell(1, 1, 0) ? 1 : 0, 1);
        due("2 by 2: lies()", x.lies(), 2);
        due("2 by 2: shakes(1)", x.shakes(1), 3);
        due("2 by 2: right comes ahead of down", x.cell(1, 0, 2), 1);
        due("2 by 2: down got none", x.cell(0, 1, 2), 0);
        due("2 by 2: two came to the last", x.cell(1, 1, 2), 3);
        due("2 by 2: shakes(3)", x.shakes(3), 1);
        due("2 by 2: all lie on the last", x.cell(1, 1, 2), 4);
        due("2 by 2: shakes(20) at once", told(slack).shakes(20), 4);
        x = told(slack + "drive 1 1;");
        due("2 by 2, driven at 3: shakes(1)", x.shakes(1), 3);
        due("2 by 2, driven at 3: up comes ahead of left", x.cell(1, 0, 2), 1);
        x = told(slack + "drive 1 0;");
        x.shakes(1);
        due("2 by 2, driven at 1: down comes ahead of left", x.cell(1, 1, 2), 1);
        x = told(slack + "drive 0 1;");
        x.shakes(1);
        due("2 by 2, driven at 2: up comes ahead of right", x.cell(0, 0, 2), 1);
        x = told("plate 2 2;limit 0;");
        due("two go to the same: shakes(1)", x.shakes(1), 2);
        due("two go to the same: 1 0", x.cell(1, 0, 2), 3);
        due("two go to the same: 0 1", x.cell(0, 1, 2), 1);
    }

    private static void sets() {
        int[] least = {0, 1, 2, 1, 2, 0};
        int[] most = {1, 7, 20, 99, 20, 99};
        int[] first = {1, 4, 8, 40, 8, 10};
        for (int what = 0; what < 6; what++) {
            Counted x = new Counted();
            due("sets(" + what + ") too little", x.sets(what, least[what] - 1), SandPlates.BAD);
            due("sets(" + what + ") too much", x.sets(what, most[what] + 1), SandPlates.BAD);
            due("sets(" + what + ") as it is", x.sets(what, first[what]), SandPlates.STATE);
            due("sets(" + what + ") refused: undone", x.count(7), 0);
            due("sets(" + what + ") the least", x.sets(what, least[what]), first[what]);
            due("setting(" + what + ") the least", x.setting(what), least[what]);
            due("sets(" + what + ") the most", x.sets(what, most[what]), least[what]);
            due("setting(" + what + ") the most", x.setting(what), most[what]);
            due("sets(" + what + ") undone", x.undo(), 1);
            due("setting(" + what + ") undone", x.setting(what), least[what]);
            for (int other = 0; other < 6; other++) {
                due("the other settings stay", other == what ? first[other] : x.setting(other), first[other]);
            }
        }
        Counted x = new Counted();
        due("sets(-1, 0)", x.sets(-1, 0), SandPlates.BAD);
        due("sets(6, 1)", x.sets(6, 1), SandPlates.BAD);
        due("sets(min, 1)", x.sets(Integer.MIN_VALUE, 1), SandPlates.BAD);
        due("sets(max, 1)", x.sets(Integer.MAX_VALUE, 1), SandPlates.BAD);
    }

    private static void drives() {
        Counted x = told("plate 4 2;");
        due("drives(-1, 0)", x.drives(-1, 0), SandPlates.BAD);
        due("drives(0, -1)", x.drives(0, -1), SandPlates.BAD);
        due("drives(4, 0)", x.drives(4, 0), SandPlates.BAD);
        due("drives(0, 2)", x.drives(0, 2), SandPlates.BAD);
        due("drives(max, max)", x.drives(Integer.MAX_VALUE, Integer.MAX_VALUE), SandPlates.BAD);
        due("drives(0, 0)", x.drives(0, 0), SandPlates.STATE);
        due("drives(3, 1)", x.drives(3, 1), 0);
        due("the driver", x.setting(6), 7);
        due("drives(3, 1) again", x.drives(3, 1), SandPlates.STATE);
        due("drives(1, 0)", x.drives(1, 0), 7);
        due("drives: undone", x.count(7), 3);
        due("drives: undo()", x.undo(), 2);
        due("the driver again", x.setting(6), 7);
    }

    private static void draws() {
        Counted x = told("plate 2 4;");
        due("draws(2, 0, 1)", x.draws(2, 0, 1), SandPlates.BAD);
        due("draws(0, 4, 1)", x.draws(0, 4, 1), SandPlates.BAD);
        due("draws(-1, 0, 1)", x.draws(-1, 0, 1), SandPlates.BAD);
        due("draws(0, -1, 1)", x.draws(0, -1, 1), SandPlates.BAD);
        due("draws(0, 0, -1)", x.draws(0, 0, -1), SandPlates.BAD);
        due("draws(0, 0, 2)", x.draws(0, 0, 2), SandPlates.BAD);
        due("draws(0, 0, 0)", x.draws(0, 0, 0), SandPlates.STATE);
        due("draws(1, 3, 1)", x.draws(1, 3, 1), 1);
        due("draws(1, 3, 1) again", x.draws(1, 3, 1), SandPlates.STATE);
        due("draws(0, 0, 1)", x.draws(0, 0, 1), 2);
        due("draws(1, 3, 0)", x.draws(1, 3, 0), 1);
        due("drawn 1 3", x.cell(1, 3, 3), 0);
        due("drawn 0 0", x.cell(0, 0, 3), 1);
        due("draws: undo()", x.undo(), 3);
        due("drawn 1 3 again", x.cell(1, 3, 3), 1);
        due("cells of the figure", x.count(2), 2);
    }

    private static void sands() {
        Counted x = new Counted();
        due("sands() of new sand", x.sands(), SandPlates.STATE);
        due("sands() refused: undone", x.count(7), 0);
        x.shakes(1);
        due("sands()", x.sands(), 8);
        counts("behind sands()", x, 3, 3, 0, 1, 0, 0, 0, 2);
        due("sands() again", x.sands(), SandPlates.STATE);
        due("sands: undo()", x.undo(), 1);
        due("the most grains again", x.count(3), 4);
    }

    private static void undo() {
        Counted x = new Counted();
        for (int force = 1; force <= 9; force++) {
            x.sets(3, force);
            due("may be undone", x.count(7), Math.min(6, force));
        }
        for (int left = 5; left >= 0; left--) {
            due("undo()", x.undo(), left);
            due("the force undone", x.setting(3), left + 3);
        }
        due("undo() of what is lost", x.undo(), SandPlates.STATE);
        due("the force stays", x.setting(3), 3);
        x = told("plate 5 4;row 11111;drive 4 3;");
        type(x, "edge 0");
        due("undo() of a text", x.undo(), 0);
        counts("a text undone", x, 3, 3, 0, 1, 0, 0, 6, 0);
        due("the driver undone", x.setting(6), 0);
        due("the edge untold", x.tells(), -16);
        x.sees(1, 1);
        x.keep(0);
        x.forget();
        x.which(0);
        due("asked, seen, kept are not undone", x.undo(), SandPlates.STATE);
        x.sets(4, 3);
        x.sees(1, 1);
        due("undo() leaves what was seen", x.undo(), 0);
        due("seen behind undo()", x.count(5), 1);
    }

    private static void cell() {
        Counted x = told("plate 2 3;");
        due("cell(2, 0, 0)", x.cell(2, 0, 0), SandPlates.BAD);
        due("cell(0, 3, 0)", x.cell(0, 3, 0), SandPlates.BAD);
        due("cell(-1, 0, 0)", x.cell(-1, 0, 0), SandPlates.BAD);
        due("cell(0, -1, 0)", x.cell(0, -1, 0), SandPlates.BAD);
        due("cell(0, 0, -1)", x.cell(0, 0, -1), SandPlates.BAD);
        due("cell(0, 0, 4)", x.cell(0, 0, 4), SandPlates.BAD);
        for (int period = 2; period <= 20; period++) {
            x = new Counted();
            x.sets(4, period);
            motionsAgree(x, period);
        }
        x = told("edge 0;period 20;");
        motionsAgree(x, 20);
        x.sets(4, 2);
        int motion = x.cell(2, 2, 0);
        due("a small motion", motion > 0 && motion < 99 ? 1 : 0, 1);
        x.sets(5, motion);
        due("still at the limit", x.cell(2, 2, 1), 1);
        x.sets(5, motion - 1);
        due("not still above the limit", x.cell(2, 2, 1), 0);
    }

    /** MOTION is what height() tells behind the steps 30 to 29 and PERIOD, step 0 being the first. */
    private static void motionsAgree(Counted x, int period) {
        for (int at = 0; at < 9; at++) {
            int most = Integer.MIN_VALUE;
            int least = Integer.MAX_VALUE;
            for (int n = 31; n <= 30 + period; n++) {
                most = Math.max(most, x.height(at % 3, at / 3, n));
                least = Math.min(least, x.height(at % 3, at / 3, n));
            }
            due("motion of " + at + " by " + period, x.cell(at % 3, at / 3, 0), most - least);
        }
    }

    private static void setting() {
        Counted x = new Counted();
        due("setting(-1)", x.setting(-1), SandPlates.BAD);
        due("setting(7)", x.setting(7), SandPlates.BAD);
        due("setting(max)", x.setting(Integer.MAX_VALUE), SandPlates.BAD);
        due("setting(min)", x.setting(Integer.MIN_VALUE), SandPlates.BAD);
    }

    private static void height() {
        Counted x = new Counted();
        due("height(0, 0, -1)", x.height(0, 0, -1), -1000000);
        due("height(0, 0, 61)", x.height(0, 0, 61), -1000000);
        due("height(-1, 0, 0)", x.height(-1, 0, 0), -1000000);
        due("height(0, -1, 0)", x.height(0, -1, 0), -1000000);
        due("height(3, 0, 0)", x.height(3, 0, 0), -1000000);
        due("height(0, 3, 0)", x.height(0, 3, 0), -1000000);
        due("height(0, 0, 0)", x.height(0, 0, 0), 0);
        // by hand: speed 40 - 40 / 8
        due("height(0, 0, 1)", x.height(0, 0, 1), 35);
        // pull 70 - 140, speed 35 - 280 / 16 + 40 = 58, less 7
        due("height(0, 0, 2)", x.height(0, 0, 2), 86);
        // pull 35, speed 140 / 16 = 8, less 1
        due("height(0, 1, 2)", x.height(0, 1, 2), 7);
        due("height(2, 2, 2)", x.height(2, 2, 2), 0);
        x.sets(0, 0);
        // clamped: pull -140, speed 35 - 35 + 40, less 5
        due("clamped: height(0, 0, 2)", x.height(0, 0, 2), 70);
        due("clamped: height(0, 1, 2)", x.height(0, 1, 2), 7);
        x.sets(0, 1);
        x.sets(4, 3);
        // 3 by 2 is 1: behind step 0 the force is less; -22 by 8 is -2, cut towards 0
        due("period 3: height(0, 0, 2)", x.height(0, 0, 2), 15);
        x.sets(4, 2);
        due("period 2: height(0, 0, 2)", x.height(0, 0, 2), 15);
        x.drives(1, 1);
        due("driven at 1 1: height(1, 1, 1)", x.height(1, 1, 1), 35);
        due("driven at 1 1: height(0, 0, 1)", x.height(0, 0, 1), 0);
        due("height: the limit of n", x.height(1, 1, 60) == -1000000 ? 1 : 0, 0);
    }

    private static void still() {
        Counted x = new Counted();
        due("still(-1)", x.still(-1), SandPlates.BAD);
        due("still(3)", x.still(3), SandPlates.BAD);
        x = told("force 1;limit 99;plate 4 3;");
        due("all are still", x.still(0), 12);
        due("likeness to no figure", x.still(1), 0);
        due("apart of no figure", x.still(2), SandPlates.NONE);
        x.draws(0, 0, 1);
        due("likeness to one", x.still(1), 1);
        // from each of the 12 cells to 0 0: 0+1+2+3 + 1+2+3+4 + 2+3+4+5
        due("apart of one", x.still(2), 30);
        x.draws(3, 2, 1);
        // the same from either corner: 0+1+2+2 + 1+2+2+1 + 2+2+1+0
        due("apart of two", x.still(2), 16);
        x = told("limit 0;row 111;row 111;row 111;");
        due("none is still", x.still(0), 0);
        due("likeness of none", x.still(1), 0);
        due("apart of none still", x.still(2), SandPlates.NONE);
    }

    private static void best() {
        Counted x = new Counted();
        due("best(-1)", x.best(-1), SandPlates.BAD);
        due("best(2)", x.best(2), SandPlates.BAD);
        x = told("limit 60;row 000;row 010;");
        int greatest = -1;
        int period = 0;
        int was = x.setting(4);
        due("best(0)", x.best(0), 7);
        due("best(1)", x.best(1), 8);
        due("the period stays", x.setting(4), was);
        due("best is not done", x.count(7), 1);
        for (int p = 2; p <= 20; p++) {
            x.sets(4, p);
            if (x.still(1) > greatest) {
                greatest = x.still(1);
                period = p;
            }
        }
        due("best(0) by hand", x.best(0), period);
        due("best(1) by hand", x.best(1), greatest);
        x = told("force 1;limit 99;");
        due("best(0) of equals", x.best(0), 2);
        due("best(1) of nothing alike", x.best(1), 0);
    }

    private static void lies() {
        Counted x = new Counted();
        due("lies()", x.lies(), 1);
        due("lies() moves nothing", x.count(3), 1);
        due("lies() is not done", x.count(7), 0);
        x.shakes(1);
        due("lies() of what lies", x.lies(), 0);
        due("lies() of still cells", told("force 1;limit 99;").lies(), 0);
        x = told("plate 6 6;limit 0;edge 0;");
        int shakes = x.lies();
        for (int left = shakes; left > 0; left--) {
            due("lies()", x.lies(), left);
            due("grains are moved", x.shakes(1) > 0 ? 1 : 0, 1);
        }
        due("nothing is moved any more", x.shakes(1), SandPlates.STATE);
    }

    private static void seesAndForget() {
        Counted x = new Counted();
        due("sees(-1, 0)", x.sees(-1, 0), SandPlates.BAD);
        due("sees(36, 0)", x.sees(36, 0), SandPlates.BAD);
        due("sees(0, -1)", x.sees(0, -1), SandPlates.BAD);
        due("sees(0, 2)", x.sees(0, 2), SandPlates.BAD);
        due("forget() of nothing", x.forget(), 0);
        for (int n = 1; n <= 6; n++) {
            due("sees, the " + n + ".", x.sees(35, 1), n);
        }
        due("sees, the 7.", x.sees(0, 0), SandPlates.FULL);
        due("sees(36, 0), the 7.", x.sees(36, 0), SandPlates.BAD);
        due("seen", x.count(5), 6);
        due("forget()", x.forget(), 6);
        due("seen behind forget()", x.count(5), 0);
        due("sees behind forget()", x.sees(0, 0), 1);
        due("seen is not done", x.count(7), 0);
    }

    private static void which() {
        Counted x = told("limit 60;");
        due("which(-1)", x.which(-1), SandPlates.BAD);
        due("which(2)", x.which(2), SandPlates.BAD);
        due("which(0) of nothing seen", x.which(0), 19);
        due("which(1) of nothing seen", x.which(1), 2);
        for (int at = 0; at < 9; at++) {
            int many = 0;
            int least = SandPlates.NONE;
            for (int p = 20; p >= 2; p--) {
                x.sets(4, p);
                if (x.cell(at % 3, at / 3, 1) == 0) {
                    many++;
                    least = p;
                }
            }
            x.forget();
            x.sees(at, 0);
            due("which(0), " + at + " not still", x.which(0), many);
            due("which(1), " + at + " not still", x.which(1), least);
        }
        x.sees(8, 1);
        due("which(0), 8 both", x.which(0), 0);
        due("which(1), 8 both", x.which(1), SandPlates.NONE);
        x = told("plate 2 2;");
        x.sees(4, 0);
        due("which(0), not on the plate, not still", x.which(0), 0);
        x.forget();
        x.sees(4, 1);
        due("which(0), not on the plate, still", x.which(0), 0);
        tell(x, "force 1;limit 99;");
        due("which(0), on the plate now", x.which(0), 19);
    }

    private static void look() {
        Counted x = told("force 1;limit 99;");
        due("look() where all are alike", x.look(), 0);
        x.sees(0, 0);
        due("look() where none can be", x.look(), SandPlates.NONE);
        x = told("plate 5 4;edge 0;period 11;drive 2 1;limit 6;");
        due("look()", x.look(), 15);
        x.sees(0, 1);
        due("two can be", x.which(0), 2);
        due("look() of two", x.look(), 2);
        x.sees(2, 1);
        due("one can be", x.which(0), 1);
        due("look() of one", x.look(), SandPlates.NONE);
    }

    private static void keepAndBack() {
        Counted x = told("plate 5 4;row 11000;stiff 2;");
        due("keep(-1)", x.keep(-1), SandPlates.BAD);
        due("keep(2)", x.keep(2), SandPlates.BAD);
        due("back(-1)", x.back(-1), SandPlates.BAD);
        due("back(2)", x.back(2), SandPlates.BAD);
        due("back(0) of none", x.back(0), SandPlates.STATE);
        due("a refused back() leaves what may be undone", x.count(7), 1);
        x.shakes(2);
        int most = x.count(3);
        due("keep(0)", x.keep(0), 20);
        due("keep() is not done", x.count(7), 2);
        due("back(1) of none", x.back(1), SandPlates.STATE);
        tell(x, "plate 2 3;");
        due("keep(1)", x.keep(1), 6);
        x.sees(1, 1);
        type(x, "abc");
        due("back(0)", x.back(0), 20);
        counts("behind back(0)", x, 5, 4, 2, most, x.count(4), 1, 3, 0);
        due("the stiffness behind back(0)", x.setting(1), 2);
        due("nothing can be undone behind back()", x.undo(), SandPlates.STATE);
        x.sets(1, 3);
        due("an image does not follow", x.back(0), 20);
        due("the stiffness of the image", x.setting(1), 2);
        due("back(1)", x.back(1), 6);
        due("the columns of image 1", x.count(0), 2);
        x.keep(0);
        due("an image kept anew", x.back(0), 6);
        x.sets(1, 7);
        due("done behind back()", x.count(7), 1);
        due("undone behind back()", x.undo(), 0);
    }

    private static void count() {
        Counted x = told("plate 6 2;row 111000;row 000001;");
        due("count(-1)", x.count(-1), SandPlates.BAD);
        due("count(8)", x.count(8), SandPlates.BAD);
        due("count(max)", x.count(Integer.MAX_VALUE), SandPlates.BAD);
        x.sets(5, 0);
        x.sees(1, 0);
        x.sees(1, 0);
        x.type('x');
        counts("counted", x, 6, 2, 4, 1, 0, 2, 1, 2);
        x.shakes(20);
        int most = 0;
        int empty = 0;
        for (int at = 0; at < 12; at++) {
            most = Math.max(most, x.cell(at % 6, at / 6, 2));
            empty += x.cell(at % 6, at / 6, 2) == 0 ? 1 : 0;
        }
        counts("shaken", x, 6, 2, 4, most, empty, 2, 1, 3);
        x = told("plate 2 2;limit 0;edge 0;stiff 1;loss 2;drive 1 1;");
        x.shakes(20);
        due("all grains on cell 0", x.cell(0, 0, 2), 4);
        counts("all grains on cell 0", x, 2, 2, 0, 4, 3);
    }
}
