/** The boundary cases of what is laid, of tries, and of the people's seconds: LAID to KINDS, and the promises 6 to 13. */
public final class PlayBoundaryTest extends Sentences {
    private static final int[] HALF_UP = {0, 1, 1, 2, 2, 3, 3, 4, 4, 5};
    /** In its middle cell all four sides are nubs of classes of their own. */
    private static final String MIDDLE = "e1d-6;e4r+7;e4d+8;e3r-9;pf1;";

    private static void onePlace() {
        says("CELLS have a PIECE in a TURN, or none; a PIECE is in one CELL at most; a LOST one (in a pocket) in none.");
        AuntsPuzzle x = of(APART + "pf1;");
        for (int cell = 0; cell < 4; cell++) {
            for (int what = 0; what < 3; what++) {
                due("an empty board", x.laid(cell, what), -9);
            }
        }
        due("0 in cell 1", x.tryIt(0, 0, 1, 1), 2);
        due("the piece", x.laid(1, 0), 0);
        due("its turn", x.laid(1, 1), 1);
        due("in its own cell, too", x.tryIt(0, 0, 0, 0), -3);
        due("in a pocket, too", x.pocket(0), -3);
        due("another in the cell", x.tryIt(0, 1, 0, 1), -3);
        x.lift(1);
        due("in a pocket", x.pocket(0), 1);
        due("a lost one", x.tryIt(0, 0, 0, 0), -3);
        due("nothing is laid", x.count(3), 0);
        x.find(0);
        layAll(x);
        due("a full board", x.count(3), 4);
        for (int cell = 0; cell < 4; cell++) {
            due("its piece", x.laid(cell, 0), cell);
        }
    }

    private static void rims() {
        says("A PIECE FITS a CELL in a TURN, if its sides are 0 just at the rim");
        for (int rows = 2; rows <= 4; rows++) {
            for (int columns = 2; columns <= 4; columns++) {
                for (int piece = 0; piece < rows * columns; piece++) {
                    rimsOf(piece, rows, columns);
                }
            }
        }
        AuntsPuzzle y = new AuntsPuzzle();
        due("a flat side inside", y.fits(1, 0, 4), 0);
        due("a nub at the rim", y.fits(4, 0, 1), 0);
        due("one flat side too many", y.fits(0, 0, 1), 0);
        due("one flat side too few", y.fits(1, 0, 0), 0);
    }

    private static void rimsOf(int piece, int rows, int columns) {
        AuntsPuzzle x = of("z" + rows + columns + ";");
        boolean[] isFlat = rimOf(piece, rows, columns);
        for (int cell = 0; cell < rows * columns; cell++) {
            boolean[] isRim = rimOf(cell, rows, columns);
            for (int turn = 0; turn < 4; turn++) {
                boolean fits = true;
                for (int side = 0; side < 4; side++) {
                    fits &= isRim[(side + turn) % 4] == isFlat[side];
                }
                due("fits(" + piece + ", " + turn + ", " + cell + ")", x.fits(piece, turn, cell), fits ? 1 : 0);
            }
        }
    }

    private static boolean[] rimOf(int cell, int rows, int columns) {
        int row = cell / columns;
        int column = cell % columns;
        return new boolean[] {row == 0, column == columns - 1, row == rows - 1, column == 0};
    }

    private static void neighbours() {
        says("together with each side of a PIECE LAID beside it they are 0 in sum.");
        int[] beside = {1, 5, 7, 3};
        for (int other : beside) {
            AuntsPuzzle x = of(MIDDLE);
            for (int turn = 0; turn < 4; turn++) {
                due("nothing is beside it", x.fits(4, turn, 4), 1);
            }
            lay(x, other);
            for (int turn = 0; turn < 4; turn++) {
                due("beside " + other + " in turn " + turn, x.fits(4, turn, 4), turn == 0 ? 1 : 0);
            }
        }
        AuntsPuzzle y = of("pf1;");
        lay(y, 1);
        int[] wants = {1, 1, 0, 0};
        for (int turn = 0; turn < 4; turn++) {
            due("a hole or a nub to a nub", y.fits(4, turn, 4), wants[turn]);
        }
        AuntsPuzzle z = of(MIDDLE);
        lay(z, 0, 2, 6, 8);
        due("what lies across a corner is not beside it", z.fits(4, 2, 4), 1);
    }

    private static void fitting() {
        says("1 FITTING under TRY: it FITS, is the CELL's own PIECE, TURN 0");
        AuntsPuzzle x = of("z44;pf1;");
        due("the first cell", x.tryIt(0, 0, 0, 0), 1);
        due("the last cell", x.tryIt(0, 15, 0, 15), 1);
        due("an inner one", x.tryIt(0, 5, 0, 5), 1);
    }

    private static void seeming() {
        says("2 SEEMING under FITTING: it FITS, but is not that");
        for (int turn = 1; turn < 4; turn++) {
            due("its own in turn " + turn, of("pf1;").tryIt(0, 4, turn, 4), 2);
        }
        due("another in turn 0", of("z44;pf1;").tryIt(0, 5, 0, 6), 2);
        due("another in turn 3", of("z44;pf1;").tryIt(0, 5, 3, 10), 2);
    }

    private static void failed() {
        says("3 FAILED under TRY: it does not FIT");
        AuntsPuzzle x = of("pf1;");
        due("a nub at the rim", x.tryIt(0, 4, 0, 0), 3);
        due("a flat side inside", x.tryIt(0, 0, 0, 4), 3);
        due("its own in a wrong turn", x.tryIt(0, 0, 1, 0), 3);
        lay(x, 1);
        due("both wrong, rim and side", x.tryIt(0, 5, 0, 4), 3);
    }

    private static void formed() {
        says("4 FORMED under FAILED: it does not, but its sides are 0 just at the rim.");
        AuntsPuzzle x = of("pf1;");
        lay(x, 1);
        due("nub to nub", x.tryIt(0, 4, 2, 4), 4);
        x.lift(1);
        due("it seems to fit without", x.tryIt(0, 4, 2, 4), 2);
        due("the cell's own beside a false one", x.tryIt(0, 1, 0, 1), 4);
        due("two classes", ofLaid(MIDDLE, 1).tryIt(0, 4, 1, 4), 4);
    }

    private static AuntsPuzzle ofLaid(String text, int... cells) {
        AuntsPuzzle x = of(text);
        lay(x, cells);
        return x;
    }

    private static void whatIsLaid() {
        says("FITTING and SEEMING ones are LAID.");
        AuntsPuzzle x = of("pf1;pf1;");
        x.tryIt(1, 1, 0, 1);
        due("a fitting one", x.laid(1, 0) * 100 + x.laid(1, 1) * 10 + x.laid(1, 2), 101);
        x.tryIt(1, 4, 2, 4);
        due("a formed one", x.laid(4, 0), -9);
        x.tryIt(1, 0, 0, 4);
        due("a failed one", x.laid(4, 0), -9);
        x.tryIt(1, 4, 1, 4);
        due("a seeming one", x.laid(4, 0) * 100 + x.laid(4, 1) * 10 + x.laid(4, 2), 411);
        due("laid", x.count(3), 2);
        due("tries", x.count(6), 4);
    }

    /** 4 and 1 are blue, 0 is of colour 2 and 5 of colour 4; one person of a kind and a pace. */
    private static AuntsPuzzle by(char kind, int pace) {
        return of("c4,3;c1,3;c0,2;c5,4;p" + kind + pace + ";");
    }

    private static void formSeconds() {
        says("SECONDS of a TRY: FORM PACE.");
        for (int pace = 1; pace <= 9; pace++) {
            AuntsPuzzle x = by('f', pace);
            due("at the rim, of the same colour", x.seconds(0, 4, 0, 1), pace);
            due("inside, of another", x.seconds(0, 0, 0, 4), pace);
            due("fitting", x.seconds(0, 4, 0, 4), pace);
        }
    }

    private static void colourSeconds() {
        says("COLOUR PACE; PACE by 2, up, if the COLOUR of the PIECE is that of the CELL.");
        for (int pace = 1; pace <= 9; pace++) {
            AuntsPuzzle x = by('c', pace);
            due("of another colour", x.seconds(0, 4, 0, 0), pace);
            due("of the same, 3", x.seconds(0, 4, 0, 1), HALF_UP[pace]);
            due("of the same, 0", x.seconds(0, 2, 0, 3), HALF_UP[pace]);
            due("fitting", x.seconds(0, 0, 0, 0), HALF_UP[pace]);
        }
    }

    private static void lampSeconds() {
        says("LAMP a COLOUR's, but of COLOUR 3 (blue) thrice PACE.");
        for (int pace = 1; pace <= 9; pace++) {
            AuntsPuzzle x = by('l', pace);
            due("of another colour", x.seconds(0, 0, 0, 2), pace);
            due("of the same", x.seconds(0, 2, 0, 3), HALF_UP[pace]);
            due("colour 2", x.seconds(0, 0, 0, 0), HALF_UP[pace]);
            due("colour 4", x.seconds(0, 5, 0, 5), HALF_UP[pace]);
            due("a blue one", x.seconds(0, 4, 0, 0), 3 * pace);
            due("a blue one in a blue cell", x.seconds(0, 4, 0, 1), 3 * pace);
            due("another in a blue cell", x.seconds(0, 0, 0, 4), pace);
        }
    }

    private static void edgerSeconds() {
        says("EDGER PACE by 2, up, at CELLS of the rim; twice PACE else.");
        for (int pace = 1; pace <= 9; pace++) {
            AuntsPuzzle x = by('e', pace);
            for (int cell = 0; cell < 9; cell++) {
                int piece = cell == 4 ? 0 : 4;
                due("cell " + cell, x.seconds(0, piece, 0, cell), cell == 4 ? 2 * pace : HALF_UP[pace]);
            }
        }
        AuntsPuzzle y = of("z44;pe9;");
        for (int cell = 0; cell < 16; cell++) {
            boolean isInside = cell == 5 || cell == 6 || cell == 9 || cell == 10;
            due("cell " + cell + " of 16", y.seconds(0, cell, 0, cell), isInside ? 18 : 5);
        }
        due("all of two by two are of the rim", of("z22;pe9;").seconds(0, 3, 0, 3), 5);
    }

    private static void slowSeconds() {
        says("SLOW a FORM's and 2.");
        for (int pace = 1; pace <= 9; pace++) {
            due("pace " + pace, by('s', pace).seconds(0, 4, 0, 1), pace + 2);
        }
    }

    private static void seemingSeconds() {
        says("In a TRY of KIND 2 twice that.");
        String kinds = "fcels";
        int[] plain = {5, 3, 10, 15, 7};
        for (int kind = 0; kind < 5; kind++) {
            AuntsPuzzle x = by(kinds.charAt(kind), 5);
            due("a fitting one", x.seconds(0, 4, 0, 4), plain[kind]);
            due("a seeming one", x.seconds(0, 4, 2, 4), 2 * plain[kind]);
            x.tryIt(0, 4, 2, 4);
            due("spent", x.person(0, 3), 2 * plain[kind]);
            x.lift(4);
            lay(x, 1);
            int before = x.person(0, 3);
            due("a formed one", x.seconds(0, 4, 2, 4), plain[kind]);
            x.tryIt(0, 4, 2, 4);
            due("spent", x.person(0, 3), before + plain[kind]);
        }
    }

    private static void askingForPeople() {
        says("0 KIND (0 f, 1 c, 2 e, 3 l, 4 s), 1 PACE, 2 DID, 3 SECONDS of all its TRIES. -1; -2.");
        AuntsPuzzle x = of("pf1;pc2;pe3;pl4;ps5;pf9;");
        int[] paces = {1, 2, 3, 4, 5, 9};
        for (int person = 0; person < 6; person++) {
            due("KIND", x.person(person, 0), person % 5);
            due("PACE", x.person(person, 1), paces[person]);
            due("DID", x.person(person, 2), 0);
            due("SECONDS", x.person(person, 3), 0);
            due("below the least", x.person(person, -1), -2);
            due("above the greatest", x.person(person, 4), -2);
        }
        due("a seventh", x.person(6, 0), -1);
        due("below the first", x.person(-1, 0), -1);
    }

    private static void nothingLaid() {
        says("0 the PIECE, 1 its TURN, 2 who laid it; -9 nothing. -1; -2.");
        AuntsPuzzle x = of("z44;pf1;pf1;pf1;pf1;pf1;pf1;");
        due("nothing", x.laid(15, 0), -9);
        x.tryIt(5, 0, 2, 15);
        due("the piece", x.laid(15, 0), 0);
        due("its turn", x.laid(15, 1), 2);
        due("the last person", x.laid(15, 2), 5);
        due("above the last cell", x.laid(16, 0), -1);
        due("below the first cell", x.laid(-1, 0), -1);
        due("above the greatest what", x.laid(0, 3), -2);
        due("below the least what", x.laid(0, -1), -2);
        x.lift(15);
        for (int what = 0; what < 3; what++) {
            due("nothing any more", x.laid(15, what), -9);
        }
    }

    private static void fitsAsIfNowhereElse() {
        says("FITS (as if it lay nowhere else): 1, 0. -1 either; -2.");
        AuntsPuzzle x = of("z22;pf1;");
        lay(x, 0);
        due("beside where it lies itself, nub to nub", x.fits(0, 1, 1), 1);
        due("below where it lies itself", x.fits(0, 3, 2), 1);
        due("where it lies", x.fits(0, 0, 0), 1);
        due("where it lies, turned", x.fits(0, 1, 0), 0);
        lay(x, 3);
        due("what else lies counts: nub to hole", x.fits(0, 1, 1), 1);
        x.lift(3);
        due("1 turned", x.tryIt(0, 1, 1, 3), 2);
        due("what else lies counts: nub to its hole", x.fits(0, 1, 1), 1);
        due("what else lies counts: nub to its nub", x.fits(0, 3, 2), 0);
        x.lift(3);
        lay(x, 3);
        x.lift(0);
        lose(x, 0);
        due("a lost one", x.fits(0, 0, 0), 1);
        due("where another lies", x.fits(0, 2, 3), 1);
        due("it lies as it lay", x.count(3), 1);
    }

    private static void secondsAsThingsStand() {
        says("SECONDS of such a TRY as things stand. -1 any; -2; -3 the CELL is LAID.");
        AuntsPuzzle x = of("z22;pf1;");
        due("nothing is laid: it would seem to fit", x.seconds(0, 0, 1, 1), 2);
        lay(x, 0);
        due("as things stand it lies beside the cell, nub to nub", x.seconds(0, 0, 1, 1), 1);
        due("and so below", x.seconds(0, 0, 3, 2), 1);
        due("far from where it lies", x.seconds(0, 0, 2, 3), 2);
        due("the cell is laid", x.seconds(0, 1, 0, 0), -3);
        x.lift(0);
        lay(x, 1);
        due("as things stand it lies beside the cell, nub to hole", x.seconds(0, 1, 3, 0), 2);
        lose(x, 2);
        due("a lost one", x.seconds(0, 2, 0, 2), 1);
        due("nothing was tried", x.count(6), 2);
        due("nothing was spent", x.person(0, 3), 2);
        layAll(ofFound(x));
        due("a full board", x.seconds(0, 0, 0, 3), -3);
    }

    private static AuntsPuzzle ofFound(AuntsPuzzle x) {
        x.lift(1);
        x.find(2);
        return x;
    }

    private static void trying() {
        says("A TRY: its KIND. -1 any; -2; -3 the CELL, the PIECE is LAID, it is LOST.");
        AuntsPuzzle x = of("z22;pf9;");
        lay(x, 0);
        lose(x, 3);
        due("the cell is laid", x.tryIt(0, 1, 0, 0), -3);
        due("the piece is laid", x.tryIt(0, 0, 0, 1), -3);
        due("it is lost", x.tryIt(0, 3, 0, 3), -3);
        due("cell and piece", x.tryIt(0, 0, 0, 0), -3);
        due("refused ones are no tries", x.count(6), 1);
        due("and cost nothing", x.person(0, 3), 9);
        due("a failed one is one", x.tryIt(0, 1, 1, 1), 3);
        due("tries", x.count(6), 2);
        due("and costs", x.person(0, 3), 18);
        x.find(3);
        lay(x, 1, 2, 3);
        due("a full board", x.tryIt(0, 3, 0, 3), -3);
    }

    private static void lifting() {
        says("What is LAID there is not any more: the PIECE. -1; -3 nothing is.");
        AuntsPuzzle x = of("z44;pf1;");
        due("an empty board", x.lift(15), -3);
        x.tryIt(0, 0, 2, 15);
        due("the piece, not the cell", x.lift(15), 0);
        due("nothing is there any more", x.lift(15), -3);
        layAll(x);
        for (int cell = 15; cell >= 0; cell--) {
            due("of a full board", x.lift(cell), cell);
            due("laid", x.count(3), cell);
        }
        due("it can be laid again", x.tryIt(0, 15, 0, 15), 1);
        due("above the last cell", x.lift(16), -1);
        due("below the first", x.lift(-1), -1);
    }

    private static void losing() {
        says("It is LOST from now on: how many are. -1; -3 it is LAID, LOST.");
        AuntsPuzzle x = of("z44;pf1;");
        lay(x, 15);
        due("a laid one", x.pocket(15), -3);
        x.lift(15);
        for (int piece = 15; piece >= 0; piece--) {
            due("one more", x.pocket(piece), 16 - piece);
            due("a lost one", x.pocket(piece), -3);
            due("lost", x.count(4), 16 - piece);
        }
        due("above the last piece", x.pocket(16), -1);
        due("below the first", x.pocket(-1), -1);
    }

    private static void finding() {
        says("It is LOST no more: how many are. -1; -3 it is not LOST.");
        AuntsPuzzle x = of("z44;pf1;");
        due("none is", x.find(0), -3);
        loseAll(x);
        for (int piece = 0; piece < 16; piece++) {
            due("one less", x.find(piece), 15 - piece);
            due("it is not any more", x.find(piece), -3);
            due("lost", x.count(4), 15 - piece);
        }
        lay(x, 0);
        due("a laid one", x.find(0), -3);
        due("above the last piece", x.find(16), -1);
        due("below the first", x.find(-1), -1);
    }

    public static void main(String[] args) {
        onePlace();
        rims();
        neighbours();
        fitting();
        seeming();
        failed();
        formed();
        whatIsLaid();
        formSeconds();
        colourSeconds();
        lampSeconds();
        edgerSeconds();
        slowSeconds();
        seemingSeconds();
        askingForPeople();
        nothingLaid();
        fitsAsIfNowhereElse();
        secondsAsThingsStand();
        trying();
        lifting();
        losing();
        finding();
        end();
    }
}
