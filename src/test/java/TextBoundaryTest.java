/** The boundaries of THE TEXT: its letters, its length, its tokens and items, and each FAULT. */
public final class TextBoundaryTest {
    private static final String[] SETTINGS = {"edge", "stiff", "loss", "force", "period", "limit"};
    private static final int[] LEAST = {0, 1, 2, 1, 2, 0};
    private static final int[] MOST = {1, 7, 20, 99, 20, 99};
    private static final int[] AT_FIRST = {1, 4, 8, 40, 8, 10};

    public static void main(String[] args) {
        Bench.holds("2: a letter (0 .. 255)", TextBoundaryTest::letterNumbers);
        Bench.holds("2: FULL: 120", TextBoundaryTest::fullText);
        Bench.holds("2: BAD ahead of FULL", TextBoundaryTest::badAheadOfFull);
        Bench.holds("3: THE TEXT is empty: how many letters it had", TextBoundaryTest::clears);
        Bench.holds("4: ITEMS (none, too)", TextBoundaryTest::noItems);
        Bench.holds("4: how many ITEMS", TextBoundaryTest::mostItems);
        Bench.holds("4: what is not told is as at first", TextBoundaryTest::notTold);
        Bench.holds("4: a text told: what was SEEN, IMAGES stay", TextBoundaryTest::seenAndImagesStay);
        Bench.holds("4: each ended by ;", TextBoundaryTest::itemEnds);
        Bench.holds("4: blanks may stand ahead of, between and behind TOKENS", TextBoundaryTest::blanks);
        Bench.holds("4: blanks are needed between two TOKENS of figures alone", TextBoundaryTest::neededBlanks);
        Bench.holds("4: blanks (32)", TextBoundaryTest::whatIsABlank);
        Bench.holds("4: plate W H (2 to 6 each)", TextBoundaryTest::plateSides);
        Bench.holds("4: plate once at most", TextBoundaryTest::plateOnce);
        Bench.holds("4: plate ahead of any drive, row", TextBoundaryTest::plateAhead);
        Bench.holds("4: edge E, stiff N, loss N, force N, period N, limit N", TextBoundaryTest::settingBounds);
        Bench.holds("4: told again: the later", TextBoundaryTest::toldAgain);
        Bench.holds("4: drive X Y, a CELL", TextBoundaryTest::driveBounds);
        Bench.holds("4: row F: W figures", TextBoundaryTest::rowLength);
        Bench.holds("4: row F: figures 0, 1", TextBoundaryTest::rowFigures);
        Bench.holds("4: H rows at most", TextBoundaryTest::rowsAtMost);
        Bench.holds("4: rows that are not told are 0", TextBoundaryTest::rowsNotTold);
        Bench.holds("4: words are rows of letters a to z", TextBoundaryTest::wordLetters);
        Bench.holds("4: a word that is none of these", TextBoundaryTest::otherWords);
        Bench.holds("4: rows of figures", TextBoundaryTest::figureLetters);
        Bench.holds("4: any other letter", TextBoundaryTest::otherLetters);
        Bench.holds("4: more than two figures", TextBoundaryTest::moreThanTwoFigures);
        Bench.holds("4: a 0 ahead of another one", TextBoundaryTest::leadingZero);
        Bench.holds("4: the first TOKEN that can't stand there", TextBoundaryTest::wrongTokens);
        Bench.holds("4: the first of several faults", TextBoundaryTest::firstFault);
        Bench.holds("4: the text's length, if it ends too early", TextBoundaryTest::endsTooEarly);
        Bench.holds("4: -10 less FAULT, from the first letter to behind the last", TextBoundaryTest::faultPlaces);
        Bench.holds("4: -10 less FAULT: nothing changes, THE TEXT stays", TextBoundaryTest::faultChangesNothing);
        Bench.holds("4: THE TEXT is empty then", TextBoundaryTest::emptyThen);
        Bench.end();
    }

    private static void items(String text, int many) {
        Counted x = new Counted();
        Bench.due("the items of '" + text + "'", Bench.tell(x, text), many);
        Bench.due("letters behind '" + text + "'", x.count(6), 0);
    }

    private static void fault(String text, int place) {
        Counted x = new Counted();
        Bench.due("the fault of '" + text + "'", Bench.tell(x, text), -10 - place);
        Bench.due("letters behind the fault of '" + text + "'", x.count(6), text.length());
        Bench.due("undone behind the fault of '" + text + "'", x.count(7), 0);
    }

    /** A fault at the place where the second text begins. */
    private static void faultAt(String ahead, String behind) {
        fault(ahead + behind, ahead.length());
    }

    // ---- letters

    private static void letterNumbers() {
        Counted x = new Counted();
        Bench.due("type(0)", x.type(0), 1);
        Bench.due("type(255)", x.type(255), 2);
        Bench.bad("type(-1)", y -> y.type(-1));
        Bench.bad("type(256)", y -> y.type(256));
        Bench.bad("type(lowest)", y -> y.type(Bench.LOWEST));
        Bench.bad("type(highest)", y -> y.type(Bench.HIGHEST));
    }

    private static Counted full() {
        Counted x = new Counted();
        Bench.type(x, "edge 0;".repeat(17) + " ");
        return x;
    }

    private static void fullText() {
        Counted x = new Counted();
        for (int n = 1; n <= 120; n++) {
            Bench.due("type, letter " + n, x.type(' '), n);
        }
        Bench.refused("type, letter 121", Bench.FULL, TextBoundaryTest::full, y -> y.type(';'));
        x = full();
        Bench.due("a full text's items", x.tells(), 17);
        Bench.due("type behind a full text that was told", x.type('a'), 1);
        x = full();
        x.clear();
        Bench.due("type behind a full text that was cleared", x.type('a'), 1);
        x = full();
        x.sets(1, 1);
        x.undo();
        Bench.due("type, letter 121, behind undo()", x.type('a'), Bench.FULL);
        x.keep(0);
        x.back(0);
        Bench.due("type, letter 121, behind back()", x.type('a'), Bench.FULL);
    }

    private static void badAheadOfFull() {
        Bench.refused("type(256), letter 121", Bench.BAD, TextBoundaryTest::full, y -> y.type(256));
        Bench.refused("type(-1), letter 121", Bench.BAD, TextBoundaryTest::full, y -> y.type(-1));
        Bench.refused("type(255), letter 121", Bench.FULL, TextBoundaryTest::full, y -> y.type(255));
        Bench.refused("type(0), letter 121", Bench.FULL, TextBoundaryTest::full, y -> y.type(0));
    }

    private static void clears() {
        Counted x = new Counted();
        Bench.due("clear() of none", x.clear(), 0);
        x.type(0);
        Bench.due("clear() of one", x.clear(), 1);
        Bench.due("clear() again", x.clear(), 0);
        Bench.due("clear() of a full text", full().clear(), 120);
        Bench.changesNothing("clear() of none", TextBoundaryTest::busyWithoutText, Counted::clear);
        x = Bench.busy();
        Bench.due("clear()", x.clear(), 15);
        Bench.due("letters behind clear()", x.count(6), 0);
        Bench.due("clear() is not DONE", x.count(7), 6);
        Bench.due("a cleared text tells nothing", x.tells(), 0);
    }

    private static Counted busyWithoutText() {
        Counted x = Bench.busy();
        x.clear();
        return x;
    }

    // ---- items

    private static void noItems() {
        items("", 0);
        items(" ", 0);
        items(" ".repeat(120), 0);
        Counted x = Bench.busy();
        x.clear();
        Bench.due("an empty text", x.tells(), 0);
        Bench.due("an empty text is DONE", x.count(7), 6);
        isAsAtFirst(x);
        Bench.due("an empty text is UNDONE", x.undo(), 5);
        Bench.due("the columns ahead of it", x.count(0), 3);
        Bench.due("the rows ahead of it", x.count(1), 2);
        Bench.due("the force ahead of it", x.setting(3), 29);
    }

    private static void isAsAtFirst(Counted x) {
        Bench.due("W at first", x.count(0), 3);
        Bench.due("H at first", x.count(1), 3);
        for (int what = 0; what < 6; what++) {
            Bench.due(SETTINGS[what] + " at first", x.setting(what), AT_FIRST[what]);
        }
        Bench.due("the driver at first", x.setting(6), 0);
        for (int at = 0; at < 9; at++) {
            Bench.due("grains of " + at + " at first", x.cell(at % 3, at / 3, 2), 1);
            Bench.due("the figure at " + at + " at first", x.cell(at % 3, at / 3, 3), 0);
        }
    }

    private static void mostItems() {
        items("edge 0;", 1);
        items("edge0;".repeat(20), 20);
        items("row111;".repeat(3), 3);
        items("plate 6 6;" + "row111111;".repeat(6), 7);
    }

    private static void notTold() {
        Counted x = Bench.told("plate 2 2;edge 0;stiff 1;loss 2;force 1;period 2;limit 0;drive 1 1;row 11;row 11;");
        Bench.due("told anew", Bench.tell(x, "edge 1;"), 1);
        isAsAtFirst(x);
        for (int told = 0; told < 6; told++) {
            Bench.due("told " + SETTINGS[told], Bench.tell(x, SETTINGS[told] + MOST[told] + ";"), 1);
            for (int what = 0; what < 6; what++) {
                Bench.due(SETTINGS[what] + " behind " + SETTINGS[told] + " alone", x.setting(what),
                    what == told ? MOST[what] : AT_FIRST[what]);
            }
        }
        Bench.due("told a plate", Bench.tell(x, "plate 6 5;"), 1);
        Bench.due("the figure of a plate", x.count(2), 0);
        Bench.due("the driver of a plate", x.setting(6), 0);
        Bench.due("the most grains of a plate", x.count(3), 1);
        Bench.due("cells without grains of a plate", x.count(4), 0);
    }

    private static void seenAndImagesStay() {
        Counted x = Bench.busy();
        Bench.due("told", x.tells(), 2);
        Bench.due("SEEN behind a text", x.count(5), 2);
        isLaidAnew(x);
        Bench.due("back(0) behind a text", x.back(0), 6);
        Bench.due("the limit of image 0", x.setting(5), 5);
        Bench.due("back(1) behind a text", x.back(1), 6);
        Bench.due("the driver of image 1", x.setting(6), 3);
        Bench.due("SEEN behind back()", x.count(5), 2);
    }

    /** Grains lie 1 on each behind a text, though they were shaken ahead of it. */
    private static void isLaidAnew(Counted x) {
        Bench.due("the most grains behind a text", x.count(3), 1);
        Bench.due("cells without grains behind a text", x.count(4), 0);
        Bench.due("sands() behind a text", x.sands(), Bench.STATE);
        Bench.due("undo() of a text", x.undo(), 5);
        Bench.dueSo("grains were shaken ahead of the text", x.count(3) > 1);
    }

    private static void itemEnds() {
        items("limit 5;", 1);
        fault("limit 5", 7);
        fault("limit 5;edge 0", 14);
        faultAt("limit 5 ", "edge 0;");
        faultAt("", ";");
        faultAt("limit 5;", ";");
        faultAt("limit 5;", ";edge 0;");
        faultAt("plate 2 2 ", "edge 0;");
        faultAt("drive 2 2 ", "edge 0;");
        faultAt("row 111 ", "row 111;");
    }

    // ---- blanks

    private static void blanks() {
        items("plate2 2;edge0;drive0 0;row10;", 4);
        items(" plate2 2;", 1);
        items("plate 2 2 ;", 1);
        items("plate2 2; ", 1);
        items("   plate   2   2   ;   edge   0   ;   row   01   ;   ", 3);
        items(" ".repeat(114) + "edge0;", 1);
        items("edge0;" + " ".repeat(114), 1);
        items("edge" + " ".repeat(114) + "0;", 1);
        items("edge0" + " ".repeat(114) + ";", 1);
    }

    private static void neededBlanks() {
        items("plate 2 3;", 1);
        faultAt("plate ", "23;");
        items("drive 1 1;", 1);
        faultAt("drive ", "11;");
        items("drive 0 1;", 1);
        faultAt("drive ", "01;");
        items("force 99;", 1);
        faultAt("force 9 ", "9;");
        items("row 101;", 1);
        faultAt("row ", "1 0 1;");
        faultAt("row ", "10 1;");
        items("edge 0;", 1);
        faultAt("", "ed ge 0;");
    }

    private static void whatIsABlank() {
        items("edge" + (char) 32 + "0;", 1);
        for (char other : new char[] {0, 9, 10, 11, 12, 13, 31, 33, 127, 160, 255}) {
            faultAt("edge", other + "0;");
            faultAt("", other + "edge 0;");
            faultAt("edge 0;", "" + other);
        }
    }

    // ---- plate, settings, drive, row

    private static void plateSides() {
        for (int side = 2; side <= 6; side++) {
            Counted x = Bench.told("plate " + side + " 4;");
            Bench.due("W", x.count(0), side);
            Bench.due("H", x.count(1), 4);
            Bench.due("the last cell of the first row", x.drives(side - 1, 0), 0);
            Bench.due("a cell beyond the first row", x.drives(side, 0), Bench.BAD);
            x = Bench.told("plate 5 " + side + ";");
            Bench.due("W", x.count(0), 5);
            Bench.due("H", x.count(1), side);
            Bench.due("the last cell of the first column", x.drives(0, side - 1), 0);
            Bench.due("a cell beyond the first column", x.drives(0, side), Bench.BAD);
        }
        for (String side : new String[] {"0", "1", "7", "8", "10", "22", "66", "99"}) {
            faultAt("plate ", side + " 4;");
            faultAt("plate 4 ", side + ";");
        }
    }

    private static void plateOnce() {
        items("plate 3 3;", 1);
        faultAt("plate 3 3;", "plate 3 3;");
        faultAt("plate 2 6;edge 0;", "plate 2 6;");
        faultAt("plate 2 6;", "plate");
        Counted x = new Counted();
        Bench.tell(x, "plate 4 4;");
        Bench.due("plate in another text", Bench.tell(x, "plate 5 5;"), 1);
        Bench.tell(x, "plate 4 4;plate 4 4;");
        Bench.due("plate behind a fault", Bench.tell(x, "plate 5 5;"), 1);
    }

    private static void plateAhead() {
        for (int what = 0; what < 6; what++) {
            items(SETTINGS[what] + MOST[what] + ";plate 4 4;", 2);
        }
        items("plate 4 4;drive 3 3;", 2);
        faultAt("drive 0 0;", "plate 4 4;");
        items("plate 4 4;row 1111;", 2);
        faultAt("row 111;", "plate 4 4;");
        faultAt("row 111;edge 0;", "plate 4 4;");
        faultAt("drive 1 1;edge 0;", "plate 4 4;");
    }

    private static void settingBounds() {
        for (int what = 0; what < 6; what++) {
            String word = SETTINGS[what] + " ";
            for (int n = 0; n <= 101; n++) {
                if (n >= LEAST[what] && n <= MOST[what]) {
                    Bench.due(word + n, Bench.told(word + n + ";").setting(what), n);
                } else {
                    faultAt(word, n + ";");
                }
            }
            faultAt(word, "-1;");
        }
    }

    private static void toldAgain() {
        for (int what = 0; what < 6; what++) {
            String least = SETTINGS[what] + LEAST[what] + ";";
            String most = SETTINGS[what] + MOST[what] + ";";
            Bench.due(least + most, Bench.told(least + most).setting(what), MOST[what]);
            Bench.due(most + least, Bench.told(most + least).setting(what), LEAST[what]);
            Bench.due(most + least + least, Bench.told(most + least + least).setting(what), LEAST[what]);
        }
        Bench.due("drive again", Bench.told("drive 2 2;drive 0 1;").setting(6), 3);
        Bench.due("drive again, as at first", Bench.told("drive 2 2;drive 0 0;").setting(6), 0);
    }

    private static void driveBounds() {
        Bench.due("drive 0 0", Bench.told("drive 0 0;").setting(6), 0);
        Bench.due("drive 2 2, 3 by 3", Bench.told("drive 2 2;").setting(6), 8);
        faultAt("drive ", "3 0;");
        faultAt("drive 0 ", "3;");
        for (int w = 2; w <= 6; w++) {
            for (int h = 2; h <= 6; h++) {
                String plate = "plate " + w + " " + h + ";drive ";
                Counted x = Bench.told(plate + (w - 1) + " " + (h - 1) + ";");
                Bench.due("the last cell as the driver", x.setting(6), w * h - 1);
                Bench.due("the end of the first row", Bench.told(plate + (w - 1) + " 0;").setting(6), w - 1);
                Bench.due("the second row's first", Bench.told(plate + "0 1;").setting(6), w);
                faultAt(plate, w + " 0;");
                faultAt(plate + "0 ", h + ";");
            }
        }
    }

    private static void rowLength() {
        faultAt("row ", "11;");
        items("row 111;", 1);
        faultAt("row ", "1111;");
        for (int w = 2; w <= 6; w++) {
            String row = "plate " + w + " 2;row ";
            Counted x = Bench.told(row + "1".repeat(w) + ";");
            Bench.due("cells of the figure", x.count(2), w);
            Bench.due("the row's last cell", x.cell(w - 1, 0, 3), 1);
            Bench.due("the next row's first cell", x.cell(0, 1, 3), 0);
            faultAt(row, "0".repeat(w - 1) + ";");
            faultAt(row, "0".repeat(w + 1) + ";");
            faultAt(row, "0".repeat(2 * w) + ";");
            faultAt(row, ";");
        }
        faultAt("row ", "1".repeat(115) + ";");
    }

    private static void rowFigures() {
        Counted x = Bench.told("row 010;");
        Bench.due("0", x.cell(0, 0, 3), 0);
        Bench.due("1", x.cell(1, 0, 3), 1);
        for (int figure = 2; figure <= 9; figure++) {
            faultAt("row ", figure + "00;");
            faultAt("row ", "1" + figure + "1;");
            faultAt("row ", "00" + figure + ";");
        }
        faultAt("row ", "/00;");
        faultAt("row 000", ":;");
    }

    private static void rowsAtMost() {
        items("row 111;".repeat(3), 3);
        faultAt("row 111;".repeat(3), "row 111;");
        for (int h = 2; h <= 6; h++) {
            String plate = "plate 2 " + h + ";";
            Counted x = Bench.told(plate + "row 11;".repeat(h));
            Bench.due("cells of the figure of " + h + " rows", x.count(2), 2 * h);
            faultAt(plate + "row 11;".repeat(h), "row 11;");
            faultAt(plate + "row 11;".repeat(h), "row 3;");
            faultAt(plate + "row 11;".repeat(h), "row");
        }
        Bench.due("a figure of all 36 cells", Bench.told("plate 6 6;" + "row 111111;".repeat(6)).count(2), 36);
    }

    private static void rowsNotTold() {
        for (int rows = 0; rows <= 6; rows++) {
            Counted x = Bench.told("plate 2 6;" + "row 11;".repeat(rows));
            for (int y = 0; y < 6; y++) {
                Bench.due("the figure at 0 " + y + " of " + rows + " rows", x.cell(0, y, 3), y < rows ? 1 : 0);
                Bench.due("the figure at 1 " + y + " of " + rows + " rows", x.cell(1, y, 3), y < rows ? 1 : 0);
            }
        }
        Counted x = Bench.told("row 111;row 111;row 111;");
        Bench.tell(x, "row 000;row 100;");
        Bench.due("a figure told anew", x.count(2), 1);
        Bench.due("the next row of a figure told anew", x.cell(0, 1, 3), 1);
    }

    // ---- tokens

    private static void wordLetters() {
        items("edge 0;", 1);
        faultAt("", "`edge 0;");
        faultAt("", "{edge 0;");
        faultAt("edge", "` 0;");
        faultAt("edge", "{ 0;");
        faultAt("", "Edge 0;");
        faultAt("", "EDGE 0;");
        faultAt("", "edgE 0;");
        faultAt("", "aedge 0;");
        faultAt("", "zedge 0;");
        faultAt("", "edgea 0;");
        faultAt("", "edgez 0;");
    }

    private static void otherWords() {
        String[] told = {"plate 2 2;", "edge 0;", "stiff 1;", "loss 2;", "force 1;", "period 2;", "limit 0;",
            "drive 0 0;", "row 000;"};
        for (String item : told) {
            items(item, 1);
            int blank = item.indexOf(' ');
            String behind = item.substring(blank);
            faultAt("", item.substring(0, blank - 1) + behind);
            faultAt("", item.substring(1));
            for (int i = 0; i < blank; i++) {
                faultAt("", item.substring(0, i) + "x" + item.substring(i + 1));
            }
            faultAt("", item.substring(0, blank) + "s" + behind);
            faultAt("", item.substring(0, blank) + item);
            faultAt("limit 9;", item.substring(0, blank - 1) + behind);
            faultAt("limit 9; ", item.substring(0, blank) + "s" + behind);
        }
        faultAt("", "a");
        faultAt("", "z");
        faultAt("", "sand 0;");
        faultAt("", "e dge 0;");
    }

    private static void figureLetters() {
        items("limit 0;limit 9;", 2);
        faultAt("limit ", "/;");
        faultAt("limit ", ":;");
        faultAt("limit 0", "/;");
        faultAt("limit 9", ":;");
        items("limit 90;", 1);
        faultAt("limit ", "a;");
        faultAt("limit 9", "a;");
    }

    private static void otherLetters() {
        for (int letter = 0; letter < 256; letter++) {
            boolean isToken = letter == ' ' || letter == ';' || letter >= '0' && letter <= '9'
                || letter >= 'a' && letter <= 'z';
            if (!isToken) {
                char other = (char) letter;
                faultAt("", other + "edge 0;");
                faultAt("edge", other + "0;");
                faultAt("edge 0", other + ";");
                faultAt("edge 0; ", other + "");
            }
        }
        items("edge 0;", 1);
        faultAt("edge 0", ":");
        faultAt("edge 0", "<");
    }

    private static void moreThanTwoFigures() {
        items("force 10;", 1);
        faultAt("force ", "100;");
        faultAt("force ", "010;");
        faultAt("force ", "111111;");
        faultAt("limit ", "000;");
        faultAt("edge ", "100;");
        faultAt("plate ", "222 2;");
        faultAt("plate 2 ", "222;");
        faultAt("drive ", "000 0;");
        faultAt("drive 0 ", "000;");
        faultAt("period ", "2".repeat(112) + ";");
        faultAt("limit ", "4294967301;");
        faultAt("limit ", "18446744073709551621;");
    }

    private static void leadingZero() {
        items("limit 0;", 1);
        items("drive 0 0;", 1);
        items("force 10;", 1);
        faultAt("limit ", "00;");
        faultAt("limit ", "05;");
        faultAt("limit ", "09;");
        faultAt("edge ", "00;");
        faultAt("edge ", "01;");
        faultAt("stiff ", "04;");
        faultAt("loss ", "08;");
        faultAt("force ", "01;");
        faultAt("period ", "02;");
        faultAt("plate ", "02 2;");
        faultAt("plate 2 ", "02;");
        faultAt("drive ", "00 0;");
        faultAt("drive 0 ", "00;");
        items("row 000;row 011;", 2);
    }

    /** Each kind of token in each place where it can't stand. */
    private static void wrongTokens() {
        String[] starts = {"", "edge 0;", "  ", "plate 2 2; "};
        for (String start : starts) {
            faultAt(start, "0;");
            faultAt(start, "11;");
            faultAt(start, ";");
        }
        String[] words = {"plate ", "edge ", "stiff ", "loss ", "force ", "period ", "limit ", "drive ", "row ",
            "plate 2 ", "drive 0 "};
        for (String word : words) {
            faultAt(word, ";");
            faultAt(word, "edge;");
            faultAt(word, "row 000;");
            faultAt(word, "x;");
        }
        String[] whole = {"plate 2 2 ", "edge 0 ", "stiff 1 ", "loss 2 ", "force 1 ", "period 2 ", "limit 0 ",
            "drive 0 0 ", "row 000 "};
        for (String item : whole) {
            faultAt(item, "0;");
            faultAt(item, "edge 0;");
            faultAt(item, "x;");
        }
    }

    private static void firstFault() {
        fault("stiff 9;loss 99;", 6);
        fault("stiff 7;loss 99;", 13);
        fault("x y z", 0);
        fault("plate 9 9;", 6);
        fault("plate 6 9;", 8);
        fault("drive 9 9;", 6);
        fault("drive 2 9;", 8);
        fault("row 11;row 222;", 4);
        fault("edge 0#;x", 6);
        fault("edge 2", 5);
    }

    private static void endsTooEarly() {
        String[] early = {"plate", "plate ", "plate 2", "plate 2 ", "plate 2 2", "plate 2 2 ", "edge", "edge 0",
            "stiff", "stiff 1", "loss", "loss 2", "force", "force 1", "force 10", "period", "period 2", "limit",
            "limit 0", "drive", "drive 0", "drive 0 0", "row", "row 000", "row 000  ", "edge 0;edge", "edge 0;edge 0"};
        for (String text : early) {
            fault(text, text.length());
        }
        items("", 0);
        items("edge 0;", 1);
        fault(" ".repeat(115) + "edge0", 120);
        fault("edge0" + " ".repeat(115), 120);
        fault("edge" + " ".repeat(116), 120);
    }

    private static void faultPlaces() {
        Counted x = new Counted();
        Bench.due("fault 0", Bench.tell(x, "0"), -10);
        Bench.due("fault 1", Bench.tell(x, " 0"), -11);
        Bench.due("fault 119", Bench.tell(x, " ".repeat(119) + "0"), -129);
        Bench.due("fault 120", Bench.tell(x, " ".repeat(116) + "edge"), -130);
        faultAt("edge 0;".repeat(17), "#");
    }

    private static void faultChangesNothing() {
        String[] faulty = {"#", "plate 5 5;edge 1;stiff 7;loss 20;force 9;period 9;limit 9;drive 4 4;row 11111",
            "plate 2 2;row 11;row 11;row 11;", "edge 1;;"};
        for (String text : faulty) {
            Bench.changesNothing("tells() of '" + text + "'", () -> {
                Counted x = Bench.busy();
                x.clear();
                Bench.type(x, text);
                return x;
            }, Counted::tells);
        }
        Counted x = new Counted();
        Bench.due("the ; is missing", Bench.tell(x, "edge 0"), -16);
        Bench.due("the ; comes", x.type(';'), 7);
        Bench.due("the text that stayed", x.tells(), 1);
        Bench.due("the edge", x.setting(0), 0);
        Bench.tell(x, "edge 0;#");
        Bench.due("the same fault again", x.tells(), -17);
        Bench.due("clear() behind a fault", x.clear(), 8);
    }

    private static void emptyThen() {
        Counted x = Bench.told("edge 0;");
        Bench.due("letters", x.count(6), 0);
        Bench.due("clear()", x.clear(), 0);
        Bench.due("type", x.type(' '), 1);
        x = full();
        x.tells();
        Bench.due("letters behind a full text", x.count(6), 0);
        Bench.due("undo() brings no text back", x.undo(), 0);
        Bench.due("letters behind undo()", x.count(6), 0);
        x.type('a');
        x.sets(0, 0);
        x.undo();
        Bench.due("undo() takes no text", x.count(6), 1);
    }
}
