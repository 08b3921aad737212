/** The boundaries of what is done to the plate: its numbers and cells, sand, undo, images, counts. */
public final class PlateBoundaryTest {
    private static final int[] LEAST = {0, 1, 2, 1, 2, 0};
    private static final int[] MOST = {1, 7, 20, 99, 20, 99};
    private static final int[] AT_FIRST = {1, 4, 8, 40, 8, 10};
    /** On it one shake moves grains, but not all of them. */
    private static final String WIDE = "plate 6 2;limit 0;";
    /** All grains come to lie on one of its 36 cells. */
    private static final String GATHERING = "plate 6 6;stiff 3;period 20;limit 0;drive 1 1;";

    public static void main(String[] args) {
        Bench.holds("1: as at first", PlateBoundaryTest::newObject);
        Bench.holds("an object is used for at most 512 calls", PlateBoundaryTest::lastCall);
        Bench.holds("CELL x, y has the number W times y, and x", PlateBoundaryTest::cellNumbers);
        Bench.holds("6: what: EDGE (0) to LIMIT (5)", PlateBoundaryTest::setsWhat);
        Bench.holds("6: n, each as told", PlateBoundaryTest::setsBounds);
        Bench.holds("6: STATE: it is that", PlateBoundaryTest::setsAsItIs);
        Bench.holds("6: BAD ahead of STATE", PlateBoundaryTest::setsBadFirst);
        Bench.holds("7: DRIVER is a CELL", PlateBoundaryTest::drivesBounds);
        Bench.holds("7: STATE: it is that", PlateBoundaryTest::drivesAsItIs);
        Bench.holds("8: a CELL is of FIGURE (is = 1), or not (0)", PlateBoundaryTest::drawsBounds);
        Bench.holds("8: STATE: it is so", PlateBoundaryTest::drawsAsItIs);
        Bench.holds("8: how many are", PlateBoundaryTest::drawsNoneToAll);
        Bench.holds("9: STATE: none", PlateBoundaryTest::sandsOfNewSand);
        Bench.holds("9: how many CELLS had not just 1 GRAIN", PlateBoundaryTest::sandsCounts);
        Bench.holds("10: STATE: none", PlateBoundaryTest::undoNone);
        Bench.holds("10: 6 are known, older ones are lost", PlateBoundaryTest::sixAreKnown);
        Bench.holds("10: the six that are known, taken back and done anew", PlateBoundaryTest::knownAnew);
        Bench.holds("10: each of tells, shakes, sets, drives, draws, sands", PlateBoundaryTest::eachIsUndone);
        Bench.holds("10: what was refused is not UNDONE", PlateBoundaryTest::refusedIsNotUndone);
        Bench.holds("10: all but THE TEXT (and SEEN, IMAGES)", PlateBoundaryTest::undoLeaves);
        Bench.holds("11: of a CELL", PlateBoundaryTest::cellBounds);
        Bench.holds("11: what: 0 to 3", PlateBoundaryTest::cellWhat);
        Bench.holds("12: what: EDGE (0) to DRIVER (6)", PlateBoundaryTest::settingWhat);
        Bench.holds("21: an IMAGE: 0, 1", PlateBoundaryTest::keepBounds);
        Bench.holds("21: how many CELLS", PlateBoundaryTest::keepCells);
        Bench.holds("21: an IMAGE keeps all that 1 tells but THE TEXT; nothing else", PlateBoundaryTest::imageHolds);
        Bench.holds("22: an IMAGE: 0, 1", PlateBoundaryTest::backBounds);
        Bench.holds("22: STATE: none was kept", PlateBoundaryTest::backNone);
        Bench.holds("22: nothing can be UNDONE behind back()", PlateBoundaryTest::backForgets);
        Bench.holds("23: what: 0 to 7", PlateBoundaryTest::countWhat);
        Bench.holds("23: the least and the most of each count", PlateBoundaryTest::countBounds);
        Bench.end();
    }

    private static Counted fresh() {
        return new Counted();
    }

    // ---- the object

    private static void newObject() {
        Counted x = fresh();
        int[] counts = {3, 3, 0, 1, 0, 0, 0, 0};
        for (int what = 0; what < 8; what++) {
            Bench.due("count(" + what + ")", x.count(what), counts[what]);
        }
        for (int what = 0; what < 6; what++) {
            Bench.due("setting(" + what + ")", x.setting(what), AT_FIRST[what]);
        }
        Bench.due("the driver", x.setting(6), 0);
        for (int at = 0; at < 9; at++) {
            Bench.due("grains of " + at, x.cell(at % 3, at / 3, 2), 1);
            Bench.due("the figure at " + at, x.cell(at % 3, at / 3, 3), 0);
        }
        Bench.due("undo()", x.undo(), Bench.STATE);
        Bench.due("back(0)", x.back(0), Bench.STATE);
        Bench.due("back(1)", x.back(1), Bench.STATE);
        Bench.due("clear()", x.clear(), 0);
        Bench.due("forget()", x.forget(), 0);
        Bench.due("sands()", x.sands(), Bench.STATE);
        Bench.due("another object's force", ownForce(), 40);
    }

    /** What one object does, another does not know. */
    private static int ownForce() {
        Counted other = fresh();
        other.sets(3, 99);
        return fresh().setting(3);
    }

    private static void lastCall() {
        Bench.Call[] calls = {x -> x.type('a'), Counted::clear, Counted::tells, x -> x.shakes(20), x -> x.sets(5, 99),
            x -> x.drives(2, 2), x -> x.draws(2, 2, 1), Counted::sands, Counted::undo, x -> x.cell(0, 0, 0),
            x -> x.setting(3), x -> x.height(2, 2, 60), x -> x.still(1), x -> x.best(0), Counted::lies,
            x -> x.sees(35, 1), Counted::forget, x -> x.which(0), Counted::look, x -> x.keep(1), x -> x.back(0),
            x -> x.count(7)};
        for (int i = 0; i < calls.length; i++) {
            Counted x = fresh();
            for (int call = 1; call < Counted.MOST_CALLS; call++) {
                x.clear();
            }
            Bench.due("call " + i + " as the 512th", calls[i].on(x), calls[i].on(fresh()));
        }
        Counted x = fresh();
        for (int call = 1; call < Counted.MOST_CALLS; call++) {
            x.sets(3, 1 + call % 99);
        }
        Bench.due("undo() behind 511 that were done", x.undo(), 5);
    }

    private static void cellNumbers() {
        for (int w = 2; w <= 6; w++) {
            for (int h = 2; h <= 6; h++) {
                Counted x = Bench.told("plate " + w + " " + h + ";drive 1 1;");
                int was = w + 1;
                for (int at = 0; at < w * h; at++) {
                    if (at != was) {
                        Bench.due("the driver ahead of " + at, x.drives(at % w, at / w), was);
                        Bench.due("the driver " + at, x.setting(6), at);
                        was = at;
                    }
                }
            }
        }
    }

    // ---- sets, drives, draws, sands

    private static void setsWhat() {
        for (int what = 0; what < 6; what++) {
            Counted x = fresh();
            int n = AT_FIRST[what] - 1;
            Bench.due("sets(" + what + ", " + n + ")", x.sets(what, n), AT_FIRST[what]);
            for (int other = 0; other < 6; other++) {
                Bench.due("setting(" + other + ") behind sets(" + what + ")", x.setting(other),
                    other == what ? n : AT_FIRST[other]);
            }
            Bench.due("the driver behind sets(" + what + ")", x.setting(6), 0);
        }
        Bench.bad("sets(-1, 1)", x -> x.sets(-1, 1));
        Bench.bad("sets(6, 1)", x -> x.sets(6, 1));
        Bench.bad("sets(7, 1)", x -> x.sets(7, 1));
        Bench.bad("sets(lowest, 1)", x -> x.sets(Bench.LOWEST, 1));
        Bench.bad("sets(highest, 1)", x -> x.sets(Bench.HIGHEST, 1));
    }

    private static void setsBounds() {
        for (int what = 0; what < 6; what++) {
            int number = what;
            Counted x = fresh();
            int was = AT_FIRST[what];
            for (int n = LEAST[what]; n <= MOST[what]; n++) {
                Bench.due("sets(" + what + ", " + n + ")", x.sets(what, n), n == was ? Bench.STATE : was);
                was = n;
            }
            Bench.due("setting(" + what + ")", x.setting(what), MOST[what]);
            Bench.bad("sets(" + what + ") below the least", y -> y.sets(number, LEAST[number] - 1));
            Bench.bad("sets(" + what + ") above the most", y -> y.sets(number, MOST[number] + 1));
            Bench.bad("sets(" + what + ", lowest)", y -> y.sets(number, Bench.LOWEST));
            Bench.bad("sets(" + what + ", highest)", y -> y.sets(number, Bench.HIGHEST));
        }
    }

    private static void setsAsItIs() {
        for (int what = 0; what < 6; what++) {
            int number = what;
            Bench.refused("sets(" + what + ") as at first", Bench.STATE, PlateBoundaryTest::fresh,
                x -> x.sets(number, AT_FIRST[number]));
            Bench.refused("sets(" + what + ") as it is", Bench.STATE, () -> {
                Counted x = Bench.busy();
                x.sets(number, MOST[number]);
                return x;
            }, x -> x.sets(number, MOST[number]));
            Counted x = fresh();
            x.sets(what, LEAST[what]);
            Bench.due("sets(" + what + ") as it is", x.sets(what, LEAST[what]), Bench.STATE);
            x.undo();
            Bench.due("sets(" + what + ") as it was", x.sets(what, AT_FIRST[what]), Bench.STATE);
        }
    }

    private static void setsBadFirst() {
        Counted x = fresh();
        Bench.due("sets(6, 0), the driver's number", x.sets(6, 0), Bench.BAD);
        Bench.due("sets(-1, 0)", x.sets(-1, 0), Bench.BAD);
        Bench.due("sets(0, 2)", x.sets(0, 2), Bench.BAD);
        Bench.due("drives(0, 3)", x.drives(0, 3), Bench.BAD);
        Bench.due("draws(0, 3, 0)", x.draws(0, 3, 0), Bench.BAD);
        Bench.due("shakes(0) of what lies", lying().shakes(0), Bench.BAD);
        Bench.due("shakes(21) of what lies", lying().shakes(21), Bench.BAD);
        Bench.due("shakes(20) of what lies", lying().shakes(20), Bench.STATE);
        Bench.due("back(2), none kept", x.back(2), Bench.BAD);
        Bench.due("back(-1), none kept", x.back(-1), Bench.BAD);
    }

    private static Counted lying() {
        Counted x = fresh();
        x.shakes(20);
        return x;
    }

    private static void drivesBounds() {
        Counted x = Bench.told("plate 3 2;");
        Bench.due("drives(2, 0)", x.drives(2, 0), 0);
        Bench.due("drives(0, 1)", x.drives(0, 1), 2);
        Bench.due("drives(2, 1)", x.drives(2, 1), 3);
        Bench.due("drives(0, 0)", x.drives(0, 0), 5);
        Bench.bad("drives(-1, 0)", y -> y.drives(-1, 0));
        Bench.bad("drives(-1, 1)", y -> y.drives(-1, 1));
        Bench.bad("drives(3, 0)", y -> y.drives(3, 0));
        Bench.bad("drives(0, -1)", y -> y.drives(0, -1));
        Bench.bad("drives(0, 2)", y -> y.drives(0, 2));
        Bench.bad("drives(5, 0)", y -> y.drives(5, 0));
        Bench.bad("drives(lowest, 0)", y -> y.drives(Bench.LOWEST, 0));
        Bench.bad("drives(0, highest)", y -> y.drives(0, Bench.HIGHEST));
        Bench.bad("drives(highest, lowest)", y -> y.drives(Bench.HIGHEST, Bench.LOWEST));
    }

    private static void drivesAsItIs() {
        Bench.refused("drives(0, 0)", Bench.STATE, PlateBoundaryTest::fresh, x -> x.drives(0, 0));
        Bench.refused("drives(0, 1), busy", Bench.STATE, Bench::busy, x -> x.drives(0, 1));
        Counted x = Bench.told("plate 6 6;drive 5 5;");
        Bench.due("drives(5, 5)", x.drives(5, 5), Bench.STATE);
        Bench.due("drives(4, 5)", x.drives(4, 5), 35);
        Bench.due("drives(5, 5) again", x.drives(5, 5), 34);
    }

    private static void drawsBounds() {
        Counted x = Bench.told("plate 3 2;");
        Bench.due("draws(2, 1, 1)", x.draws(2, 1, 1), 1);
        Bench.due("draws(0, 0, 1)", x.draws(0, 0, 1), 2);
        Bench.due("draws(2, 1, 0)", x.draws(2, 1, 0), 1);
        Bench.due("draws(0, 0, 0)", x.draws(0, 0, 0), 0);
        Bench.bad("draws(-1, 0, 1)", y -> y.draws(-1, 0, 1));
        Bench.bad("draws(3, 0, 1)", y -> y.draws(3, 0, 1));
        Bench.bad("draws(0, -1, 1)", y -> y.draws(0, -1, 1));
        Bench.bad("draws(0, 2, 1)", y -> y.draws(0, 2, 1));
        Bench.bad("draws(3, 0, 0)", y -> y.draws(3, 0, 0));
        Bench.bad("draws(0, 1, -1)", y -> y.draws(0, 1, -1));
        Bench.bad("draws(0, 1, 2)", y -> y.draws(0, 1, 2));
        Bench.bad("draws(0, 1, highest)", y -> y.draws(0, 1, Bench.HIGHEST));
        Bench.bad("draws(lowest, lowest, lowest)", y -> y.draws(Bench.LOWEST, Bench.LOWEST, Bench.LOWEST));
    }

    private static void drawsAsItIs() {
        Bench.refused("draws(0, 0, 1), drawn", Bench.STATE, Bench::busy, x -> x.draws(0, 0, 1));
        Bench.refused("draws(0, 1, 0), not drawn", Bench.STATE, Bench::busy, x -> x.draws(0, 1, 0));
        Bench.refused("draws(2, 2, 0) at first", Bench.STATE, PlateBoundaryTest::fresh, x -> x.draws(2, 2, 0));
    }

    private static void drawsNoneToAll() {
        Counted x = Bench.told("plate 6 6;");
        for (int at = 0; at < 36; at++) {
            Bench.due("drawn " + at, x.draws(at % 6, at / 6, 1), at + 1);
        }
        Bench.due("count(2) of all", x.count(2), 36);
        for (int at = 35; at >= 0; at--) {
            Bench.due("no more drawn " + at, x.draws(at % 6, at / 6, 0), at);
        }
        Bench.due("count(2) of none", x.count(2), 0);
    }

    private static void sandsOfNewSand() {
        Bench.refused("sands() at first", Bench.STATE, PlateBoundaryTest::fresh, Counted::sands);
        Bench.refused("sands() behind sands()", Bench.STATE, () -> {
            Counted x = Bench.busy();
            x.sands();
            return x;
        }, Counted::sands);
        Counted x = fresh();
        x.shakes(1);
        x.undo();
        Bench.due("sands() behind shakes undone", x.sands(), Bench.STATE);
    }

    private static void sandsCounts() {
        // a shake on this plate moves one grain to its neighbour: one cell has none, one has two
        Counted x = Bench.told("edge 0;stiff 1;loss 2;force 5;period 2;limit 0;");
        Bench.due("one grain moves", x.shakes(1), 1);
        Bench.due("sands() of two cells", x.sands(), 2);
        Bench.due("sands() of none", x.sands(), Bench.STATE);
        x = Bench.told(GATHERING);
        x.shakes(20);
        Bench.due("the most grains", x.count(3), 36);
        Bench.due("sands() of all cells", x.sands(), 36);
        Bench.due("the most grains behind sands()", x.count(3), 1);
        Bench.due("cells without grains behind sands()", x.count(4), 0);
    }

    // ---- undo

    private static void undoNone() {
        Bench.refused("undo() at first", Bench.STATE, PlateBoundaryTest::fresh, Counted::undo);
        Counted x = fresh();
        x.sets(5, 0);
        Bench.due("undo() of one", x.undo(), 0);
        Bench.due("undo() of none", x.undo(), Bench.STATE);
        Bench.refused("undo() of none, busy", Bench.STATE, () -> {
            Counted y = Bench.busy();
            for (int undone = 0; undone < 6; undone++) {
                y.undo();
            }
            return y;
        }, Counted::undo);
        Bench.refused("undo() behind back()", Bench.STATE, () -> {
            Counted y = Bench.busy();
            y.back(0);
            return y;
        }, Counted::undo);
    }

    private static void sixAreKnown() {
        for (int done = 1; done <= 14; done++) {
            Counted x = fresh();
            for (int force = 1; force <= done; force++) {
                x.sets(3, force);
            }
            int known = Math.min(6, done);
            Bench.due("known of " + done, x.count(7), known);
            for (int undone = 1; undone <= known; undone++) {
                Bench.due("undo() of " + done, x.undo(), known - undone);
                Bench.due("the force", x.setting(3), done == undone ? 40 : done - undone);
            }
            Bench.due("undo() beyond " + known, x.undo(), Bench.STATE);
            Bench.due("the force stays", x.setting(3), done == known ? 40 : done - known);
        }
    }

    private static void knownAnew() {
        Counted x = fresh();
        for (int force = 1; force <= 9; force++) {
            x.sets(3, force);
        }
        x.undo();
        x.undo();
        Bench.due("known behind two undone", x.count(7), 4);
        Bench.due("done anew", x.sets(3, 50), 7);
        Bench.due("done anew", x.sets(3, 51), 50);
        Bench.due("known behind two done anew", x.count(7), 6);
        Bench.due("done anew, one is lost", x.sets(3, 52), 51);
        int[] forces = {51, 50, 7, 6, 5, 4};
        for (int undone = 0; undone < 6; undone++) {
            Bench.due("undo()", x.undo(), 5 - undone);
            Bench.due("the force", x.setting(3), forces[undone]);
        }
        Bench.due("undo() of none", x.undo(), Bench.STATE);
    }

    private static void eachIsUndone() {
        Bench.Call[] done = {Counted::tells, x -> x.shakes(1), x -> x.sets(0, 1), x -> x.sets(1, 7), x -> x.sets(2, 20),
            x -> x.sets(3, 99), x -> x.sets(4, 20), x -> x.sets(5, 0), x -> x.drives(1, 1), x -> x.draws(1, 1, 0),
            x -> x.draws(0, 1, 1), Counted::sands};
        for (int i = 0; i < done.length; i++) {
            Counted x = shaken();
            Counted same = shaken();
            Bench.dueSo("call " + i + " is not refused", done[i].on(x) >= 0);
            Bench.due("known behind call " + i, x.count(7), 1);
            Bench.due("undo() of call " + i, x.undo(), 0);
            same.clear();
            x.clear();
            Bench.dueSo("all is as ahead of call " + i, java.util.Arrays.equals(Bench.asked(x), Bench.asked(same)));
        }
    }

    /** A plate whose every number can be made another, with sand that was shaken and moves on; none can be undone. */
    private static Counted shaken() {
        Counted x = Bench.told("plate 3 2;row 101;row 010;edge 0;stiff 3;loss 5;limit 1;drive 2 1;");
        x.shakes(1);
        x.keep(0);
        x.back(0);
        Bench.type(x, "edge 1;");
        return x;
    }

    private static void refusedIsNotUndone() {
        Counted x = Bench.told("force 1;limit 99;");
        x.keep(0);
        x.back(0);
        Bench.due("shakes(1) of still cells", x.shakes(1), Bench.STATE);
        Bench.due("sets as it is", x.sets(3, 1), Bench.STATE);
        Bench.due("drives as it is", x.drives(0, 0), Bench.STATE);
        Bench.due("draws as it is", x.draws(0, 0, 0), Bench.STATE);
        Bench.due("sands() of new sand", x.sands(), Bench.STATE);
        x.type('#');
        Bench.due("tells() of a fault", x.tells(), -10);
        Bench.due("shakes(0)", x.shakes(0), Bench.BAD);
        Bench.due("sets(5, 100)", x.sets(5, 100), Bench.BAD);
        Bench.due("drives(3, 3)", x.drives(3, 3), Bench.BAD);
        Bench.due("draws(3, 3, 1)", x.draws(3, 3, 1), Bench.BAD);
        Bench.due("known", x.count(7), 0);
        Bench.due("undo()", x.undo(), Bench.STATE);
    }

    private static void undoLeaves() {
        Counted x = fresh();
        x.sets(3, 1);
        x.keep(0);
        x.sees(1, 1);
        x.type('a');
        Bench.due("known behind keep, sees, type", x.count(7), 1);
        Bench.due("undo()", x.undo(), 0);
        Bench.due("SEEN behind undo()", x.count(5), 1);
        Bench.due("letters behind undo()", x.count(6), 1);
        Bench.due("the force behind undo()", x.setting(3), 40);
        Bench.due("back(0) behind undo()", x.back(0), 9);
        Bench.due("the force of the image", x.setting(3), 1);
        x.sets(3, 2);
        x.forget();
        x.clear();
        x.keep(0);
        Bench.due("undo() behind forget, clear, keep", x.undo(), 0);
        Bench.due("SEEN stays forgotten", x.count(5), 0);
        Bench.due("letters stay cleared", x.count(6), 0);
        x.back(0);
        Bench.due("the image stays kept", x.setting(3), 2);
    }

    // ---- asked

    private static void cellBounds() {
        Counted x = Bench.told("plate 3 2;row 001;row 100;");
        Bench.due("cell(2, 0, 3)", x.cell(2, 0, 3), 1);
        Bench.due("cell(0, 1, 3)", x.cell(0, 1, 3), 1);
        Bench.due("cell(2, 1, 3)", x.cell(2, 1, 3), 0);
        Bench.due("cell(0, 0, 3)", x.cell(0, 0, 3), 0);
        for (int what = 0; what < 4; what++) {
            Bench.due("cell(-1, 0, " + what + ")", x.cell(-1, 0, what), Bench.BAD);
            Bench.due("cell(-1, 1, " + what + ")", x.cell(-1, 1, what), Bench.BAD);
            Bench.due("cell(3, 0, " + what + ")", x.cell(3, 0, what), Bench.BAD);
            Bench.due("cell(0, -1, " + what + ")", x.cell(0, -1, what), Bench.BAD);
            Bench.due("cell(0, 2, " + what + ")", x.cell(0, 2, what), Bench.BAD);
            Bench.due("cell(highest, 0, " + what + ")", x.cell(Bench.HIGHEST, 0, what), Bench.BAD);
            Bench.due("cell(0, lowest, " + what + ")", x.cell(0, Bench.LOWEST, what), Bench.BAD);
        }
        Bench.bad("cell(3, 0, 0)", y -> y.cell(3, 0, 0));
        Bench.bad("cell(0, 2, 0)", y -> y.cell(0, 2, 0));
    }

    private static void cellWhat() {
        Counted x = fresh();
        Bench.due("cell(0, 0, 0)", x.cell(0, 0, 0), 249);
        Bench.due("cell(0, 0, 1)", x.cell(0, 0, 1), 0);
        Bench.due("cell(0, 0, 2)", x.cell(0, 0, 2), 1);
        Bench.due("cell(0, 0, 3)", x.cell(0, 0, 3), 0);
        Bench.bad("cell(0, 0, -1)", y -> y.cell(0, 0, -1));
        Bench.bad("cell(0, 0, 4)", y -> y.cell(0, 0, 4));
        Bench.bad("cell(0, 0, lowest)", y -> y.cell(0, 0, Bench.LOWEST));
        Bench.bad("cell(0, 0, highest)", y -> y.cell(0, 0, Bench.HIGHEST));
    }

    private static void settingWhat() {
        Counted x = Bench.told("plate 6 6;edge 0;stiff 7;loss 20;force 99;period 19;limit 98;drive 5 5;");
        int[] told = {0, 7, 20, 99, 19, 98, 35};
        for (int what = 0; what < 7; what++) {
            Bench.due("setting(" + what + ")", x.setting(what), told[what]);
        }
        Bench.bad("setting(-1)", y -> y.setting(-1));
        Bench.bad("setting(7)", y -> y.setting(7));
        Bench.bad("setting(lowest)", y -> y.setting(Bench.LOWEST));
        Bench.bad("setting(highest)", y -> y.setting(Bench.HIGHEST));
    }

    // ---- images

    private static void keepBounds() {
        Bench.due("keep(0)", fresh().keep(0), 9);
        Bench.due("keep(1)", fresh().keep(1), 9);
        Bench.bad("keep(-1)", x -> x.keep(-1));
        Bench.bad("keep(2)", x -> x.keep(2));
        Bench.bad("keep(lowest)", x -> x.keep(Bench.LOWEST));
        Bench.bad("keep(highest)", x -> x.keep(Bench.HIGHEST));
        Bench.refused("keep(2), none kept", Bench.BAD, PlateBoundaryTest::fresh, x -> x.keep(2));
        Bench.refused("keep(-1), none kept", Bench.BAD, PlateBoundaryTest::fresh, x -> x.keep(-1));
    }

    private static void keepCells() {
        Counted x = Bench.told("plate 2 2;");
        Bench.due("keep(0) of the least plate", x.keep(0), 4);
        Bench.tell(x, "plate 6 6;");
        Bench.due("keep(1) of the greatest plate", x.keep(1), 36);
        Bench.due("back(0) to the least plate", x.back(0), 4);
        Bench.due("W", x.count(0), 2);
        Bench.due("a cell beyond it", x.cell(2, 0, 2), Bench.BAD);
        Bench.due("back(1) to the greatest plate", x.back(1), 36);
        Bench.due("its last cell", x.cell(5, 5, 2), 1);
        Bench.due("keep(0) over what was kept", x.keep(0), 36);
        Bench.tell(x, "");
        Bench.due("back(0) to what was kept later", x.back(0), 36);
        Bench.due("back(0) again", x.back(0), 36);
    }

    private static void imageHolds() {
        Counted x = Bench.told("plate 3 2;row 101;edge 0;stiff 3;loss 5;force 41;period 9;limit 1;drive 2 1;");
        x.shakes(1);
        int[] kept = Bench.held(x);
        x.keep(1);
        Bench.due("keep(1) is not DONE", x.count(7), 2);
        x.shakes(1);
        x.draws(1, 1, 1);
        Bench.tell(x, "plate 5 5;edge 1;");
        x.type('a');
        x.sees(0, 0);
        Bench.due("back(1)", x.back(1), 6);
        int[] back = Bench.held(x);
        // the text's letters, what was seen, and what can be undone are no image's
        Bench.due("SEEN behind back()", back[5], 1);
        Bench.due("letters behind back()", back[6], 1);
        back[5] = kept[5];
        back[6] = kept[6];
        back[7] = kept[7];
        for (int i = 0; i < kept.length; i++) {
            Bench.due("held " + i + " of the image", back[i], kept[i]);
        }
        Bench.due("the other image", x.back(0), Bench.STATE);
    }

    private static void backBounds() {
        Counted x = fresh();
        x.keep(0);
        x.keep(1);
        Bench.due("back(0)", x.back(0), 9);
        Bench.due("back(1)", x.back(1), 9);
        Bench.bad("back(-1)", y -> y.back(-1));
        Bench.bad("back(2)", y -> y.back(2));
        Bench.bad("back(lowest)", y -> y.back(Bench.LOWEST));
        Bench.bad("back(highest)", y -> y.back(Bench.HIGHEST));
    }

    private static void backNone() {
        for (int image = 0; image < 2; image++) {
            int none = image;
            Bench.refused("back(" + image + "), the other one kept", Bench.STATE, () -> {
                Counted x = Bench.told(WIDE);
                x.sets(4, 3);
                x.keep(1 - none);
                x.shakes(1);
                return x;
            }, x -> x.back(none));
            Bench.refused("back(" + image + ") at first", Bench.STATE, PlateBoundaryTest::fresh, x -> x.back(none));
        }
    }

    private static void backForgets() {
        Counted x = Bench.busy();
        Bench.due("known ahead of keep()", x.count(7), 6);
        x.keep(0);
        Bench.due("known behind keep()", x.count(7), 6);
        Bench.due("back() to what is", x.back(0), 6);
        Bench.due("known behind back()", x.count(7), 0);
        Bench.due("undo() behind back()", x.undo(), Bench.STATE);
        Bench.due("the force behind back()", x.setting(3), 29);
        x.sets(3, 30);
        Bench.due("known behind one more", x.count(7), 1);
        Bench.due("undo() of one more", x.undo(), 0);
        Bench.due("the force", x.setting(3), 29);
        Bench.due("undo() does not go behind back()", x.undo(), Bench.STATE);
    }

    // ---- count

    private static void countWhat() {
        Counted x = Bench.told(WIDE + "row 101010;");
        x.shakes(1);
        x.sees(0, 0);
        x.sees(0, 0);
        x.type('a');
        Bench.due("count(0)", x.count(0), 6);
        Bench.due("count(1)", x.count(1), 2);
        Bench.due("count(2)", x.count(2), 3);
        Bench.dueSo("count(3)", x.count(3) > 1);
        Bench.dueSo("count(4)", x.count(4) > 0);
        Bench.due("count(5)", x.count(5), 2);
        Bench.due("count(6)", x.count(6), 1);
        Bench.due("count(7)", x.count(7), 2);
        Bench.bad("count(-1)", y -> y.count(-1));
        Bench.bad("count(8)", y -> y.count(8));
        Bench.bad("count(lowest)", y -> y.count(Bench.LOWEST));
        Bench.bad("count(highest)", y -> y.count(Bench.HIGHEST));
    }

    private static void countBounds() {
        Counted least = Bench.told("plate 2 2;");
        least.undo();
        Bench.tell(least, "plate 2 2;");
        int[] lowest = {2, 2, 0, 1, 0, 0, 0, 1};
        for (int what = 0; what < 8; what++) {
            Bench.due("the least count(" + what + ")", least.count(what), lowest[what]);
        }
        Counted first = Bench.told("plate 2 2;limit 0;edge 0;stiff 1;loss 2;drive 1 1;");
        first.shakes(20);
        Bench.due("the most grains, on the first cell", first.count(3), 4);
        Bench.due("cells without any, the first one not", first.count(4), 3);
        Counted last = Bench.told("plate 2 2;limit 0;edge 0;stiff 1;loss 2;");
        last.shakes(20);
        Bench.due("the most grains, on the last cell", last.count(3), 4);
        Bench.due("cells without any, the last one not", last.count(4), 3);
        Counted most = Bench.told(GATHERING);
        most.shakes(20);
        for (int x = 0; x < 36; x++) {
            most.draws(x % 6, x / 6, 1);
        }
        for (int seen = 0; seen < 6; seen++) {
            most.sees(0, 0);
        }
        Bench.type(most, " ".repeat(120));
        int[] highest = {6, 6, 36, 36, 35, 6, 120, 6};
        for (int what = 0; what < 8; what++) {
            Bench.due("the most count(" + what + ")", most.count(what), highest[what]);
        }
    }
}
