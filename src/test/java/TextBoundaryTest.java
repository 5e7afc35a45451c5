/** The boundary cases of the puzzle and of the text that it is read from: Terms, and the promises 1 to 5. */
public final class TextBoundaryTest extends Sentences {
    private static void newObject() {
        says("`AuntsPuzzle()`: Three by three, nobody.");
        AuntsPuzzle x = new AuntsPuzzle();
        int[] counts = {3, 3, 0, 0, 0, 12, 0, 0, 0};
        for (int what = 0; what < counts.length; what++) {
            due("count(" + what + ")", x.count(what), counts[what]);
        }
        due("the last cell", x.colour(8), 0);
        due("no cell more", x.colour(9), -1);
        due("nobody", x.person(0, 0), -1);
        due("no image", x.on(), -3);
        due("an empty tape", x.puzzle(), -1000);
        due("an empty row", x.judge(), 0);
    }

    private static void feeding() {
        says("n (1 .. 8) bytes come, the lowest first: how many THE TAPE has.");
        for (int n = -1; n <= 10; n++) {
            int want = n < 1 ? -4 : n > 8 ? -6 : n;
            AuntsPuzzle x = new AuntsPuzzle();
            due("feed(" + n + ")", x.feed(n, -1L), want);
            due("the tape", x.count(8), Math.max(0, want));
        }
        due("the least", new AuntsPuzzle().feed(LEAST, 0L), -4);
        due("the greatest", new AuntsPuzzle().feed(MOST, 0L), -6);
        AuntsPuzzle x = new AuntsPuzzle();
        x.feed(1, 0x7A7A7A7A7A7A7A70L);
        x.feed(2, 0x7A7A7A7A7A7A3966L);
        x.feed(1, 0x7A7A7A7A7A7A7A3BL);
        due("what is above n bytes does not come", x.puzzle(), 1);
        due("the lowest is the first", x.person(0, 1), 9);
        AuntsPuzzle y = new AuntsPuzzle();
        y.feed(8, 0x3B3966703B316370L);
        due("all eight come", y.puzzle(), 2);
        due("the eighth, too", y.person(1, 1), 9);
        AuntsPuzzle z = new AuntsPuzzle();
        z.feed(8, 0xFF3966703B316370L);
        due("a byte with the sign's bit", z.puzzle(), -1007);
    }

    private static void fullTape() {
        says("-4; -6 (n; above 64).");
        for (int n = 1; n <= 8; n++) {
            AuntsPuzzle x = new AuntsPuzzle();
            for (int i = 1; i < 8; i++) {
                x.feed(8, 0L);
            }
            x.feed(n, 0L);
            due("one above 64", x.feed(9 - n, 0L), -6);
            due("the tape", x.count(8), 56 + n);
            due("just 64", n == 8 ? 64 : x.feed(8 - n, 0L), 64);
            due("one more", x.feed(1, 0L), -6);
            due("none of a full one", x.feed(0, 0L), -4);
            due("the tape", x.count(8), 64);
        }
    }

    private static void reading() {
        says("THE TAPE becomes a PUZZLE, and has none: how many STATEMENTS; the FAULT (nothing is counted).");
        AuntsPuzzle x = new AuntsPuzzle();
        String[] texts = {"z22;", "c0,1;c1,1;", "x", "z55;", "", TEXT_OF_64, "z33;z33;z33;"};
        int[] answers = {1, 2, -1000, -2000, -1000, -2015, 3};
        for (int i = 0; i < texts.length; i++) {
            due("puzzle() of " + texts[i], read(x, texts[i]), answers[i]);
            due("the tape behind it", x.count(8), 0);
        }
        for (int what = 11; what <= 16; what++) {
            due("count(" + what + ")", x.count(what), 0);
        }
    }

    private static void rowsAndColumns() {
        says("ROWS and COLUMNS (2 .. 4 each; 3, 3 at first)");
        due("rows at first", new AuntsPuzzle().count(0), 3);
        due("columns at first", new AuntsPuzzle().count(1), 3);
        for (int size = 0; size <= 99; size++) {
            int rows = size / 10;
            int columns = size % 10;
            boolean isAllowed = rows >= 2 && rows <= 4 && columns >= 2 && columns <= 4;
            AuntsPuzzle x = new AuntsPuzzle();
            String text = "z" + rows + columns + ";";
            due(text, read(x, text), isAllowed ? 1 : -2000);
            due("rows behind " + text, x.count(0), isAllowed ? rows : 3);
            due("columns behind " + text, x.count(1), isAllowed ? columns : 3);
        }
    }

    private static void rowsOfCells() {
        says("CELL c is in row c by COLUMNS (cut).");
        for (int rows = 2; rows <= 4; rows++) {
            for (int columns = 2; columns <= 4; columns++) {
                AuntsPuzzle x = of("z" + rows + columns + ";");
                int cell = 0;
                for (int row = 0; row < rows; row++) {
                    for (int column = 0; column < columns; column++) {
                        due("up of " + cell, x.side(cell, 0, 0), row == 0 ? 0 : -1);
                        due("right of " + cell, x.side(cell, 0, 1), column == columns - 1 ? 0 : 1);
                        due("down of " + cell, x.side(cell, 0, 2), row == rows - 1 ? 0 : 1);
                        due("left of " + cell, x.side(cell, 0, 3), column == 0 ? 0 : -1);
                        cell++;
                    }
                }
                due("the last cell", x.colour(cell - 1), 0);
                due("the one behind it", x.colour(cell), -1);
            }
        }
    }

    private static void classes() {
        says("an inner EDGE of a CLASS (1 .. 9)");
        for (int kind = 0; kind <= 9; kind++) {
            AuntsPuzzle x = new AuntsPuzzle();
            due("class " + kind, read(x, "e4r+" + kind + ";"), kind == 0 ? -2000 : 1);
            due("what 4 has", x.side(4, 0, 1), kind == 0 ? 1 : kind);
        }
        due("class 10", readNew("e4r+10;"), -1005);
        due("class 9 with a hole", of("e4r-9;").side(4, 0, 1), -9);
    }

    private static void nubAndHole() {
        says("the one has a NUB there, the other a HOLE.");
        AuntsPuzzle x = of("z44;e10r+9;e10d-8;e05r-1;");
        due("right of 10", x.side(10, 0, 1), 9);
        due("left of 11", x.side(11, 0, 3), -9);
        due("down of 10", x.side(10, 0, 2), -8);
        due("up of 14", x.side(14, 0, 0), 8);
        due("right of 5", x.side(5, 0, 1), -1);
        due("left of 6", x.side(6, 0, 3), 1);
    }

    private static void allSides(AuntsPuzzle x, int[][] sides) {
        for (int piece = 0; piece < sides.length; piece++) {
            for (int side = 0; side < 4; side++) {
                due("side(" + piece + ", 0, " + side + ")", x.side(piece, 0, side), sides[piece][side]);
            }
        }
    }

    private static void flatSides() {
        says("its sides 0 up, 1 right, 2 down, 3 left are each 0 (flat: the rim), k (a NUB of CLASS k) or -k (a HOLE).");
        allSides(of("z22;e0r+9;e0d-9;"), new int[][] {{0, 9, -9, 0}, {0, 0, 1, -9}, {9, 1, 0, 0}, {-1, 0, 0, -1}});
    }

    private static void turns() {
        says("TURNED by t (0 .. 3) it has at side s what it has at side (s and 4 less t) modulo 4.");
        AuntsPuzzle x = of("e1d-6;e4r+7;e4d+8;e3r-9;");
        int[][] turned = {{6, 7, 8, 9}, {9, 6, 7, 8}, {8, 9, 6, 7}, {7, 8, 9, 6}};
        for (int turn = 0; turn < 4; turn++) {
            for (int side = 0; side < 4; side++) {
                due("side(4, " + turn + ", " + side + ")", x.side(4, turn, side), turned[turn][side]);
            }
        }
        due("below the least turn", x.side(4, -1, 0), FAR + 2);
        due("above the greatest turn", x.side(4, 4, 0), FAR + 2);
        due("below the least side", x.side(4, 0, -1), FAR + 2);
        due("above the greatest side", x.side(4, 0, 4), FAR + 2);
    }

    private static void atFirst() {
        says("At first all EDGES are of CLASS 1, the CELL left of or above it has the NUB; all COLOURS are 0.");
        AuntsPuzzle x = new AuntsPuzzle();
        allSides(x, new int[][] {{0, 1, 1, 0}, {0, 1, 1, -1}, {0, 0, 1, -1}, {-1, 1, 1, 0}, {-1, 1, 1, -1}, {-1, 0, 1, -1},
            {-1, 1, 0, 0}, {-1, 1, 0, -1}, {-1, 0, 0, -1}});
        for (int cell = 0; cell < 9; cell++) {
            due("colour", x.colour(cell), 0);
        }
    }

    private static void wholeText() {
        says("It is read from a TEXT (64 bytes at most)");
        AuntsPuzzle x = new AuntsPuzzle();
        feedText(x, TEXT_OF_64);
        due("a byte more", x.feed(1, ';'), -6);
        due("bytes on it", x.count(8), 64);
        due("all 64 are read", x.puzzle(), 14);
        due("the first statement came", x.colour(1), 1);
        due("the last statement came", x.count(2), 6);
    }

    private static void endsOfStatements() {
        says("STATEMENTS, each with \";\" behind");
        due("none", readNew("z22"), -1003);
        due("none at the second", readNew("z22;z33"), -1007);
        due("none between", readNew("z22z33;"), -1003);
        due("one alone", readNew(";"), -1000);
        due("one ahead", readNew(";z22;"), -1000);
        due("two", readNew("z22;;"), -1004);
        eachByte("", "zecp", "", "", -1001);
        eachByte("e0r+1", ";", "", "", 1);
    }

    private static void size() {
        says("\"z\" ROWS COLUMNS (digits; all EDGES, COLOURS are as at first then, nothing is laid, none is LOST)");
        AuntsPuzzle x = of("e0r-5;e7r+6;c0,9;c8,8;pf1;");
        lay(x, 0);
        lose(x, 8);
        due("the same size again", read(x, "z33;"), 1);
        due("an edge", x.side(0, 0, 1), 1);
        due("its other side", x.side(1, 0, 3), -1);
        due("the last edge", x.side(7, 0, 1), 1);
        due("a colour", x.colour(0), 0);
        due("the last colour", x.colour(8), 0);
        due("laid", x.count(3), 0);
        due("laid there", x.laid(0, 0), -9);
        due("lost", x.count(4), 0);
        due("what was lost can be laid", x.tryIt(0, 8, 0, 8), 1);
        due("what was laid can be lost", x.pocket(0), 1);
        due("people stay", x.count(2), 1);
        due("twice in a text", read(x, "c0,7;z33;c1,6;"), 3);
        due("what came ahead of it is gone", x.colour(0), 0);
        due("what came behind it is there", x.colour(1), 6);
        eachByte("z", "234", "0156789", "3;", 1);
        eachByte("z3", "234", "0156789", ";", 1);
        due("one digit", readNew("z3;"), -1002);
        due("three digits", readNew("z333;"), -1003);
    }

    /** Each of the 256 bytes at a place of a text: with some it is read, with some out of range, with the others it can't go on. */
    private static void eachByte(String before, String read, String outOfRange, String after, int answer) {
        for (int sign = 0; sign < 256; sign++) {
            int want = read.indexOf(sign) >= 0 ? answer : outOfRange.indexOf(sign) >= 0 ? -2000 : -1000 - before.length();
            due("byte " + sign + " behind " + before, readNew(before + (char) sign + after), want);
        }
    }

    private static void edges() {
        says("\"e\" CELL (1 or 2 digits), \"r\" or \"d\", \"+\" or \"-\", CLASS (a digit)");
        due("no digit", readNew("er+1;"), -1001);
        due("one", readNew("e0r+1;"), 1);
        due("two", readNew("e00r+1;"), 1);
        due("two, the end", readNew("e00"), -1003);
        due("three", readNew("e000r+1;"), -1003);
        eachByte("e", "013467", "2589", "r+1;", 1);
        eachByte("e00", "rd", "", "+1;", 1);
        eachByte("e00r", "+-", "", "1;", 1);
        eachByte("e00r+", "123456789", "0", ";", 1);
    }

    private static void edgesToRightAndDown() {
        says("the EDGE to the right, down: the CELL has the NUB (+), the HOLE (-)");
        due("right, nub", of("e4r+2;").side(4, 0, 1), 2);
        due("right, hole", of("e4r-2;").side(4, 0, 1), -2);
        due("down, nub", of("e4d+2;").side(4, 0, 2), 2);
        due("down, hole", of("e4d-2;").side(4, 0, 2), -2);
        due("the last one holds", of("e4d-2;e4d+3;e4d-4;").side(4, 0, 2), -4);
    }

    private static void colours() {
        says("\"c\" CELL \",\" COLOUR (a digit)");
        for (int paint = 0; paint <= 9; paint++) {
            due("colour " + paint, of("c8,5;c8," + paint + ";").colour(8), paint);
        }
        due("colour 10", readNew("c8,10;"), -1004);
        due("no colour", readNew("c8,;"), -1003);
        due("no digit", readNew("c,1;"), -1001);
        due("three digits", readNew("c008,1;"), -1003);
        due("no comma", readNew("c81;"), -1003);
        eachByte("c08", ",", "", "1;", 1);
        eachByte("c08,", "0123456789", "", ";", 1);
    }

    private static void kindsAndPaces() {
        says("\"p\" a letter of a KIND, PACE (a digit, 1 .. 9): a PERSON more");
        eachByte("p", "fcels", "", "1;", 1);
        eachByte("pf", "123456789", "0", ";", 1);
        String letters = "fcels";
        for (int kind = 0; kind < 5; kind++) {
            AuntsPuzzle x = of("p" + letters.charAt(kind) + "1;p" + letters.charAt(kind) + "9;");
            due("KIND of " + letters.charAt(kind), x.person(0, 0), kind);
            due("the least PACE", x.person(0, 1), 1);
            due("the greatest PACE", x.person(1, 1), 9);
        }
        due("pace 10", readNew("pf10;"), -1003);
        due("no pace", readNew("pf;"), -1002);
    }

    private static void sixPeople() {
        says("(6 at most)");
        due("six in one text", readNew("pf1;".repeat(6)), 6);
        due("seven in one text", readNew("pf1;".repeat(7)), -2024);
        AuntsPuzzle x = new AuntsPuzzle();
        for (int n = 1; n <= 6; n++) {
            due("one more", read(x, "pc" + n + ";"), 1);
            due("people", x.count(2), n);
        }
        due("a seventh", read(x, "pc7;"), -2000);
        due("people", x.count(2), 6);
        due("the sixth is as before", x.person(5, 1), 6);
        due("no seventh", x.person(6, 1), -1);
        due("nor behind a size", read(x, "z22;pc7;"), -2004);
    }

    private static void leadingZeros() {
        says("Numbers may begin with 0.");
        AuntsPuzzle x = of("c00,1;c08,2;e00r+3;e07r-4;");
        due("c00", x.colour(0), 1);
        due("c08", x.colour(8), 2);
        due("e00", x.side(0, 0, 1), 3);
        due("e07", x.side(7, 0, 1), -4);
        due("09 is 9", of("z44;c09,7;").colour(9), 7);
        due("09 is not there", readNew("c09,7;"), -2000);
    }

    private static void emptyTape() {
        says("At least one STATEMENT.");
        AuntsPuzzle x = new AuntsPuzzle();
        due("nothing was fed", x.puzzle(), -1000);
        due("one", read(x, "pf1;"), 1);
        due("the tape has none then", x.puzzle(), -1000);
        due("nothing changed", x.count(2), 1);
    }

    private static void firstBadByte() {
        says("kind 1 the place of the first byte with which no PUZZLE can go on");
        for (int place = 0; place < 64; place++) {
            String text = TEXT_OF_64.substring(0, place) + "!" + TEXT_OF_64.substring(place + 1);
            due("a bad byte at " + place, readNew(text), -1000 - place);
            due("and another at the end", readNew(text.substring(0, 63) + "!"), -1000 - place);
        }
        due("a byte 0", readNew("" + (char) 0), -1000);
        due("a byte 255", readNew("z22;" + (char) 255), -1004);
    }

    private static void theEnd() {
        says("(the end, if something lacks): -1000 less the place");
        String text = "z34;e10r-2;c11,9;ps9;e0d+1;c0,0;z44;e14r+1;";
        int statements = 0;
        for (int end = 0; end <= text.length(); end++) {
            boolean isWhole = end > 0 && text.charAt(end - 1) == ';';
            statements += isWhole ? 1 : 0;
            due("the first " + end, readNew(text.substring(0, end)), isWhole ? statements : -1000 - end);
        }
        due("all but the last of 64", readNew(TEXT_OF_64.substring(0, 63)), -1063);
        due("64 bytes, and something lacks", readNew("c0,0;".repeat(12) + "e00r"), -1064);
        due("64 bytes, the last is a wrong one", readNew("c0,0;".repeat(12) + "pf11"), -1063);
    }

    private static void firstBadStatement() {
        says("else kind 2 the place of the letter of the first STATEMENT that is not as it must be");
        due("a bad byte behind bad statements", readNew("z99;e9r+0;pf0;x"), -1014);
        due("an end behind them", readNew("z99;e9r+0;pf0;p"), -1015);
        due("without it", readNew("z99;e9r+0;pf0;"), -2000);
        due("the first of two", readNew("pf1;c9,0;pf0;"), -2004);
        due("the second alone", readNew("pf1;c8,0;pf0;"), -2009);
        due("the last of 64 bytes", readNew("c0,0;".repeat(12) + "pf0;"), -2060);
        due("a size counts from its statement on", readNew("c8,1;z22;c4,1;"), -2009);
        due("and not ahead of it", readNew("c9,1;z44;"), -2000);
        due("a bad size ahead of what it would allow", readNew("z45;c15,1;"), -2000);
    }

    private static void kindsOfBadStatements() {
        says("(a number out of range, a CELL that is not there, no EDGE there, no room for more): -2000 less the place.");
        for (int rows = 2; rows <= 4; rows++) {
            for (int columns = 2; columns <= 4; columns++) {
                String start = "z" + rows + columns + ";";
                int cells = rows * columns;
                for (int cell = 0; cell < 20; cell++) {
                    boolean isThere = cell < cells;
                    boolean hasRight = isThere && cell % columns < columns - 1;
                    boolean hasDown = isThere && cell + columns < cells;
                    due(start + "c" + cell, readNew(start + "c" + cell + ",9;"), isThere ? 2 : -2004);
                    due(start + "e" + cell + "r", readNew(start + "e" + cell + "r+9;"), hasRight ? 2 : -2004);
                    due(start + "e" + cell + "d", readNew(start + "e" + cell + "d-9;"), hasDown ? 2 : -2004);
                }
                due("cell 99", readNew(start + "c99,0;"), -2004);
            }
        }
        due("no room", readNew("ps9;".repeat(6) + "c0,1;ps9;"), -2029);
        due("a class out of range", readNew("c0,1;e0r+0;"), -2005);
        due("a pace out of range", readNew("c0,1;pf0;"), -2005);
        due("a size out of range", readNew("c0,1;z15;"), -2005);
    }

    private static void allOrNothing() {
        says("Without FAULT all of it comes, with one nothing.");
        String good = "e0r+6;c2,7;ps9;";
        String[] faults = {"x", "z22", "z55;", "c9,1;", "z22;e3r+1;"};
        int[] answers = {-1015, -1018, -2015, -2015, -2019};
        for (int i = 0; i < faults.length; i++) {
            AuntsPuzzle x = of("e0r-4;c2,5;pf3;");
            lay(x, 0);
            lose(x, 8);
            due("with the fault " + faults[i], read(x, good + faults[i]), answers[i]);
            due("the edge", x.side(0, 0, 1), -4);
            due("the colour", x.colour(2), 5);
            due("the people", x.count(2), 1);
            due("what is laid", x.laid(0, 0), 0);
            due("what is lost", x.count(4), 1);
            due("the size", x.count(0) * 10 + x.count(1), 33);
            due("without", read(x, good), 3);
            due("the edge", x.side(0, 0, 1), 6);
            due("the colour", x.colour(2), 7);
            due("the people", x.count(2), 2);
            due("what is laid stays", x.laid(0, 0), 0);
            due("what is lost stays", x.count(4), 1);
        }
    }

    private static void askingForColours() {
        says("`int colour(int cell)`: COLOUR. -1.");
        AuntsPuzzle x = of("z44;c0,9;c15,8;");
        due("the first", x.colour(0), 9);
        due("the last", x.colour(15), 8);
        due("below the first", x.colour(-1), -1);
        due("above the last", x.colour(16), -1);
    }

    public static void main(String[] args) {
        newObject();
        feeding();
        fullTape();
        reading();
        rowsAndColumns();
        rowsOfCells();
        classes();
        nubAndHole();
        flatSides();
        turns();
        atFirst();
        wholeText();
        endsOfStatements();
        size();
        edges();
        edgesToRightAndDown();
        colours();
        kindsAndPaces();
        sixPeople();
        leadingZeros();
        emptyTape();
        firstBadByte();
        theEnd();
        firstBadStatement();
        kindsOfBadStatements();
        allOrNothing();
        askingForColours();
        end();
    }
}
