/** The boundary cases of part II, of ways, rules and tables, and of the promises 14 to 20. */
public final class PlanBoundaryTest extends Sentences {
    private static final int RULES = 5;
    /** Nubs go round, 0 to 1 to 3 to 2 to 0: all four pieces are alike but for their turns. */
    private static final String ROUND = "z22;e0d-1;e2r-1;";

    private static void allWays() {
        says("in how many ways all PIECES (LOST ones, too) can be LAID in all CELLS, each FITTING");
        AuntsPuzzle x = of(APART + "pf1;");
        due("one in each of four turns", x.ways(0), 4);
        lose(x, 0, 3);
        due("though two are lost", x.ways(0), 4);
        due("though one is laid falsely", x.tryIt(0, 1, 3, 0), 2);
        due("laid", x.ways(0), 4);
        due("all four alike, each in one turn at a cell", of(ROUND).ways(0), 24);
        AuntsPuzzle y = of(APART + "pf1;");
        layAll(y);
        due("a full board", y.ways(0), 4);
        due("another cut", read(y, ROUND), 3);
        due("ways of another cut", y.ways(0), 24);
        due("tried of another cut", y.ways(1), 16 + 4 * (12 + 3 * (8 + 2 * 4)));
    }

    private static void howManyTried() {
        says("gone through by CELLS, at each PIECES by numbers not yet LAID, each in TURNS 0 .. 3: so many are TRIED");
        AuntsPuzzle x = of(APART + "pf1;");
        due("16 in cell 0, of which 4 go on, each with 12, 8 and 4", x.ways(1), 16 + 4 * (12 + 8 + 4));
        lose(x, 0);
        lay(x, 1);
        due("whatever is laid or lost", x.ways(1), 16 + 4 * (12 + 8 + 4));
        due("all go on", of(ROUND).ways(1), 16 + 4 * (12 + 3 * (8 + 2 * 4)));
    }

    private static void itEnds() {
        says("beyond 20000 it ends: -9.");
        AuntsPuzzle just = of("z34;e6d+2;e7d-1;e2r-1;e3d+1;e0r+1;e6r-2;");
        due("just 20000: how many", just.ways(1), 20000);
        due("just 20000: ways", just.ways(0), 24);
        AuntsPuzzle beyond = of("z34;e3d-3;e2r-1;e3d-4;e4d-1;e2d-1;");
        due("20004 would be tried: how many", beyond.ways(1), 20001);
        due("20004 would be tried: ways", beyond.ways(0), -9);
        AuntsPuzzle far = of("z44;");
        due("far beyond: how many", far.ways(1), 20001);
        due("far beyond: ways", far.ways(0), -9);
    }

    private static void askingForWays() {
        says("WAYS (what 0), how many were TRIED (1; 20001 it ended); -9. -2.");
        AuntsPuzzle x = of(APART);
        due("the least", x.ways(0), 4);
        due("the greatest", x.ways(1), 112);
        due("below the least", x.ways(-1), -2);
        due("above the greatest", x.ways(2), -2);
        due("it ended", of("z44;").ways(1), 20001);
    }

    private static void firstWay() {
        says("Of the first of the WAYS: the PIECE (what 0), TURN (1) in a CELL; -9 there is none within what is TRIED. -1; -2.");
        for (String text : new String[] {"z22;", "z44;", APART, ROUND, "z34;e3d-3;e2r-1;e3d-4;e4d-1;e2d-1;"}) {
            AuntsPuzzle x = of(text);
            for (int cell = 0; cell < cellsOf(x); cell++) {
                due("the piece, though it may have ended later", x.first(cell, 0), cell);
                due("its turn", x.first(cell, 1), 0);
            }
            due("above the last cell", x.first(cellsOf(x), 0), -1);
            due("below the first cell", x.first(-1, 0), -1);
            due("below the least what", x.first(0, -1), -2);
            due("above the greatest what", x.first(0, 2), -2);
        }
        due("the only one that is found ahead of the end", of("z44;e6r+3;e8r+2;e13r+3;e2d+2;e8d+1;e5r-1;").first(15, 0), 15);
    }

    private static void rules() {
        says("RULES: 0 PLAIN; 1 RIM FIRST under PLAIN; 2 COLOURS under PLAIN; 3 FORMS under PLAIN; 4 MARKS under FORMS.");
        AuntsPuzzle x = of("pf1;");
        int[] wants = {-2, 9, 9, 18 + 9, 27 + 9, 27 + 9, -2};
        for (int rule = -1; rule <= RULES; rule++) {
            int want = wants[rule + 1];
            due("done by " + rule, x.done(rule, 0), want);
            due("half by " + rule, x.half(rule, 0), want < 0 ? -2 : want - 5);
            due("table by " + rule, x.table(rule, 1), want);
            due("line by " + rule, x.line(rule), want < 0 ? -2 : 1);
        }
    }

    private static void emptyToFull() {
        says("DONE by a RULE by a PERSON: from what is LAID on");
        AuntsPuzzle x = of("pf2;");
        for (int cell = 0; cell <= 9; cell++) {
            due(cell + " are laid: PLAIN", x.done(0, 0), 2 * (9 - cell));
            due(cell + " are laid: RIM FIRST", x.done(1, 0), 2 * (9 - cell));
            due(cell + " are laid: COLOURS", x.done(2, 0), 4 * (9 - cell));
            due(cell + " are laid: FORMS", x.done(3, 0), 5 * (9 - cell));
            due(cell + " are laid: MARKS", x.done(4, 0), 5 * (9 - cell));
            if (cell < 9) {
                lay(x, cell);
            }
        }
        due("nothing was laid by asking", x.count(6), 9);
    }

    private static void orderOfCells() {
        says("CELLS that are not LAID yet by numbers (RIM FIRST: those of the rim ahead of others)");
        AuntsPuzzle x = of("pe9;");
        lay(x, 0, 1, 2);
        due("PLAIN, half: 3, 4, 5", x.half(0, 0), 5 + 18 + 5);
        due("RIM FIRST, half: 3, 5, 6", x.half(1, 0), 5 + 5 + 5);
        due("PLAIN, all", x.done(0, 0), 5 * 5 + 18);
        due("RIM FIRST, all", x.done(1, 0), 5 * 5 + 18);
    }

    /** 3 lies in cell 0: in cells 1 and 2 piece 0 comes ahead of the own, in cell 3 it is all there is. No side meets its like. */
    private static AuntsPuzzle withFalseOne(String person) {
        AuntsPuzzle x = of(APART + person);
        due("3 in cell 0", x.tryIt(0, 3, 2, 0), 2);
        return x;
    }

    private static void tillItsOwn() {
        says("at each PIECES that are not LAID, not LOST, by numbers, each in TURNS 0 .. 3, are TRIED till the CELL's own in TURN 0 comes");
        AuntsPuzzle x = withFalseOne("pf1;");
        due("4 and 1, 4 and 1, 4", x.done(0, 0), 5 + 5 + 4);
        due("half: 4 and 1", x.half(0, 0), 5);
        lose(x, 0);
        due("1, 1, and none", x.done(0, 0), 1 + 1);
        lose(x, 1);
        due("in cell 1 2 in four turns, of which one seems to fit, 1, and none", x.done(0, 0), 4 + 1 + 1);
    }

    private static void without() {
        says("(if it does not, all are tried, and the CELL stays without)");
        AuntsPuzzle x = of(APART + "pf1;");
        lose(x, 0);
        due("12 in cell 0, of which three seem to fit", x.done(0, 0), 12 + 3 + 1 + 1 + 1);
        due("its half", x.half(0, 0), 12 + 3 + 1);
        lose(x, 1, 2, 3);
        for (int rule = 0; rule < RULES; rule++) {
            due("all are lost: " + rule, x.done(rule, 0), 0);
            due("all are lost, half: " + rule, x.half(rule, 0), 0);
            due("all are lost, table: " + rule, x.table(rule, 1), 0);
        }
    }

    private static void itsOwnIsLaid() {
        says("each TRY costs its SECONDS (KIND as things stand then; wrong ones are not LAID, its own is, FITTING or not)");
        // Cell 0 has 3, so that 1 does not fit cell 1, and is laid. Else 0 would seem to fit cell 3 or 1 would come again there.
        due("its own, though it does not fit", withFalseOne("pf1;").done(0, 0), 14);
        // In cell 0 what seems to fit costs twice; were it laid, nothing of it were left for cells 1 to 3.
        AuntsPuzzle x = of(APART + "pf9;");
        lose(x, 0);
        due("wrong ones are not laid", x.done(0, 0), 9 * (12 + 3 + 3));
        // With 1 laid what comes to cell 0 meets it, and only seems to at the rim.
        lay(x, 1);
        due("as things stand", x.done(0, 0), 9 * (8 + 2));
    }

    private static void rimFirst() {
        says("RIM FIRST: at the rim only PIECES with a flat side.");
        AuntsPuzzle x = of("pf1;");
        lose(x, 0);
        due("PLAIN: 8 pieces in cell 0, of which 2, 6, 8 seem to fit", x.done(0, 0), 32 + 3 + 8);
        due("RIM FIRST: 7 pieces", x.done(1, 0), 28 + 3 + 8);
        AuntsPuzzle y = of("pf1;");
        lose(y, 4);
        due("RIM FIRST: inside nothing is left to try", y.done(1, 0), 8);
        due("PLAIN: in cell 4 there are 4 of the rim", y.done(0, 0), 4 + 4 * 4 + 4);
        AuntsPuzzle z = of("z33;pf1;");
        lay(z, 0, 1, 2, 3, 5, 6, 7);
        lose(z, 4);
        due("RIM FIRST: 8 is laid ahead of cell 4", z.done(1, 0), 1);
        lose(z, 8);
        z.find(4);
        due("RIM FIRST: at the rim 4 is not tried", z.done(1, 0), 1);
        due("PLAIN: 4 is laid ahead of cell 8", z.done(0, 0), 1);
        AuntsPuzzle w = of("z44;pf1;");
        lay(w, 0, 1, 2, 3, 4, 7, 8, 11, 12, 13, 14, 15);
        w.lift(0);
        lose(w, 5);
        due("RIM FIRST: cell 5 has 0 no more, and tries 6, 9, 10", w.done(1, 0), 1 + 4 + 4 + 4 + seemingIn(w, 5, 6, 9, 10) + 3);
    }

    private static int seemingIn(AuntsPuzzle x, int cell, int... pieces) {
        int number = 0;
        for (int piece : pieces) {
            for (int turn = 0; turn < 4; turn++) {
                number += x.fits(piece, turn, cell);
            }
        }
        return number;
    }

    private static void colours() {
        says("COLOURS: first 2 SECONDS for each PIECE not LAID, not LOST; then only those of the CELL's COLOUR.");
        AuntsPuzzle x = of(APART + "c3,5;pf1;");
        due("four to sort", x.done(2, 0), 8 + 4);
        lose(x, 0);
        due("three to sort; 1 and 2 in cell 0 seem to fit once each", x.done(2, 0), 6 + 8 + 2 + 3);
        lay(x, 3);
        due("two to sort", x.done(2, 0), 4 + 8 + 2 + 2);
        lose(x, 1, 2);
        due("none to sort", x.done(2, 0), 0);
    }

    private static void forms() {
        says("FORMS: first 3 SECONDS for each; then only those with as many NUBS as the CELL's own.");
        AuntsPuzzle x = of(APART + "pf1;");
        due("four to sort", x.done(3, 0), 12 + 4);
        lose(x, 1);
        due("three to sort; 2 has a nub as 1 has, and meets 0 in cell 1", x.done(3, 0), 9 + 1 + 4 + 1 + 1);
        lay(x, 2);
        due("two to sort; none is left with one nub", x.done(3, 0), 6 + 1 + 1);
        lose(x, 0, 3);
        due("none to sort", x.done(3, 0), 0);
    }

    private static void marks() {
        says("MARKS: as FORMS, and a PIECE whose sides (in that TURN) are as those of one that FAILED there is not tried there again.");
        AuntsPuzzle x = of(ROUND + "pf1;");
        lose(x, 0);
        due("FORMS: 12 in cell 0, of which three seem to fit", x.done(3, 0), 9 + 12 + 3 + 3);
        due("MARKS: 1 fails thrice there, 2 and 3 only seem to fit; elsewhere it does not count", x.done(4, 0), 9 + 5 + 2 + 2 + 3);
        AuntsPuzzle apart = of("z22;e0r+1;e0d-2;e1d+3;e2r-4;pf1;");
        lose(apart, 0);
        due("MARKS: alike but for the classes is not alike", apart.done(4, 0), 9 + 12 + 3 + 3);
        // 0 and 1 are alike but for a turn; 3 in cell 0 makes both meet it falsely in cell 1.
        AuntsPuzzle y = of("z22;e0r+1;e0d-1;e1d+1;e2r+2;pf1;");
        due("3 in cell 0", y.tryIt(0, 3, 2, 0), 2);
        due("FORMS: 0 in four turns and 1 in cell 1, then 2", y.done(3, 0), 9 + 4 + 1 + 1);
        due("MARKS: 1 is not tried there, though it is the cell's own", y.done(4, 0), 9 + 4 + 1);
        for (int weight = 2; weight <= 18; weight++) {
            marksOfSidesWeighed(weight);
        }
    }

    /** Piece 1 begins with 0 and nub, piece 4 with 1 and -hole: with each side weight times the next one they'd look alike. */
    private static void marksOfSidesWeighed(int weight) {
        int nub = Math.min(9, weight - 1);
        int hole = weight - nub;
        AuntsPuzzle x = of("e1r+" + nub + ";e4r-" + hole + ";e0d-1;e1d-1;e4d-1;pf1;");
        lay(x, 2, 3, 5, 6, 7, 8);
        lose(x, 0);
        due("1 and 4 in four turns each fail in cell 0, " + weight, x.half(4, 0), 6 + 8);
    }

    private static void halves() {
        says("HALF: SECONDS when half of the CELLS that were not LAID (cut, 1 at least) are behind.");
        AuntsPuzzle x = of("pf7;");
        int[] cells = {4, 4, 3, 3, 2, 2, 1, 1, 1, 0};
        for (int laid = 0; laid <= 9; laid++) {
            due(laid + " are laid", x.half(0, 0), 7 * cells[laid]);
            due(laid + " are laid, with sorting", x.half(4, 0), 7 * cells[laid] + 3 * (9 - laid));
            if (laid < 9) {
                lay(x, laid);
            }
        }
        due("16 cells", of("z44;pf1;").half(0, 0), 8);
        due("4 cells", of("z22;pf1;").half(0, 0), 2);
        AuntsPuzzle y = of(APART + "pf1;");
        lose(y, 0, 1, 2);
        due("a cell that stays without is behind, too", y.half(0, 0), 5 + 4 + 1);
    }

    private static void bestRules() {
        says("BEST RULE of a PERSON, of several the least.");
        AuntsPuzzle x = of("pf1;pf9;");
        due("PLAIN as RIM FIRST", x.bestRule(0), 0);
        lose(x, 0);
        due("RIM FIRST: 39 of 43, 39, 59, 44, 44", x.bestRule(0), 1);
        due("FORMS as MARKS, for a slow one", x.bestRule(1), 3);
        due("a colour of its own", read(x, "c0,1;"), 1);
        due("COLOURS: 24", x.bestRule(0), 2);
        AuntsPuzzle y = of(ROUND + "pf9;");
        lose(y, 0);
        due("MARKS", y.bestRule(0), 4);
        y.find(0);
        layAll(y);
        due("a full board: all as good", y.bestRule(0), 0);
        due("the last person", x.bestRule(1), 2);
        due("above the last person", x.bestRule(2), -1);
        due("below the first person", x.bestRule(-1), -1);
        due("nobody", new AuntsPuzzle().bestRule(0), -1);
    }

    private static void firstPeople() {
        says("TABLE: the first n PEOPLE at once by a RULE");
        AuntsPuzzle x = of("z22;c1,1;c2,2;c3,3;pf1;pf9;pf2;");
        due("the first", x.table(2, 1), 4 + 8);
        due("the first two", x.table(2, 2), 18 + 8);
        due("all three", x.table(2, 3), 9 + 8);
    }

    private static void dealing() {
        says("CELLS not LAID in that order are dealt round to them");
        AuntsPuzzle x = of("pe4;pf1;");
        lay(x, 0, 1, 2, 3, 6, 7, 8);
        due("PLAIN: 4 to the first, and 5 to the second, who looks at 4 first", x.table(0, 2), 8);
        due("RIM FIRST: 5 to the first", x.table(1, 2), 2);
        AuntsPuzzle y = of("z22;c1,1;c2,2;c3,3;ps9;ps9;ps9;ps9;ps9;ps9;");
        int[] rounds = {4, 2, 2, 1, 1, 1};
        for (int n = 1; n <= 6; n++) {
            int longest = rounds[n - 1] * 11;
            due(n + " for four cells", y.table(2, n), longest + Math.max(0, n - 3) * (longest / 10) + 8);
        }
        layAll(y);
        due("a full board: nothing to deal", y.table(2, 6), 0);
    }

    private static void eachAlone() {
        says("each as DONE alone with its own CELLS (what others LAY meanwhile it does not see; what sorting costs comes once)");
        AuntsPuzzle x = of(APART + "pf1;pf1;");
        // The second: in cell 1 0 in four turns, of which one seems to fit, and 1; in cell 3 0 and 2 in four turns each, and 3.
        due("PLAIN", x.table(0, 2), 5 + 1 + 4 + 4 + 1);
        // The first: 0; in cell 2 1 in four turns, and 2.
        due("FORMS, twelve for sorting", x.table(3, 2), 1 + 4 + 1 + 12);
    }

    private static void tenths() {
        says("the longest of them, and a tenth of that (cut) for each more than 3, and what sorting costs.");
        AuntsPuzzle x = of(TEXT_OF_64);
        int[] wants = {81, 45, 27, 27 + 2, 18 + 2 * 1, 18 + 3 * 1};
        for (int n = 1; n <= 6; n++) {
            due(n + " at the table", x.table(2, n), wants[n - 1] + 18);
        }
        AuntsPuzzle y = of(PAINTED + "pf3;pf3;pf3;pf3;");
        due("a tenth of 9 is 0", y.table(2, 4), 9 + 18);
        AuntsPuzzle z = of(PAINTED + "pf5;pf5;pf5;pf5;pf5;pf5;");
        due("a tenth of 15, cut", z.table(2, 4), 15 + 1 + 18);
        due("a tenth of 10, twice", z.table(2, 5), 10 + 2 + 18);
        due("a tenth of 10, thrice", z.table(2, 6), 10 + 3 + 18);
    }

    private static void leastLine() {
        says("LINE: the n (1 ..) with least, of several the least.");
        due("five of six", of(TEXT_OF_64).line(2), 5);
        due("one alone", of("pf1;").line(0), 1);
        AuntsPuzzle x = of("z22;c1,1;c2,2;c3,3;pf1;pf1;pf1;pf1;pf1;pf1;");
        due("four as five as six", x.line(2), 4);
        layAll(x);
        due("a full board: all as good", x.line(2), 1);
        AuntsPuzzle y = of("z22;c1,1;c2,2;c3,3;pf9;pf9;pf9;pf9;pf9;pf1;");
        due("one cell each, but for two who have none", y.line(2), 4);
        AuntsPuzzle z = of(PAINTED + "pf9;pf9;pf9;");
        due("all there are", z.line(2), 3);
        due("two of two", of("z22;c1,1;c2,2;c3,3;pf9;pf1;").line(2), 2);
        due("one of two", of("z22;c1,1;c2,2;c3,3;pf1;pf9;").line(2), 1);
    }

    private static void tooMany() {
        says("TABLE. -2; -4; -6 more PEOPLE than there are.");
        for (int people = 0; people <= 6; people++) {
            AuntsPuzzle x = people == 0 ? new AuntsPuzzle() : of("pf1;".repeat(people));
            due("none", x.table(0, 0), -4);
            due("below", x.table(0, -1), -4);
            if (people > 0) {
                due("all that there are", Math.min(1, x.table(0, people)), 1);
            }
            due("one more", x.table(0, people + 1), -6);
        }
    }

    private static void emptyLine() {
        says("LINE; -9 there are no PEOPLE. -2.");
        AuntsPuzzle x = new AuntsPuzzle();
        for (int rule = 0; rule < RULES; rule++) {
            due("nobody, rule " + rule, x.line(rule), -9);
        }
        due("that is no refusal", x.count(11) + x.count(13) + x.count(16), 0);
        due("nobody, and no such rule", x.line(RULES), -2);
        due("nobody, and no such rule", x.line(-1), -2);
    }

    public static void main(String[] args) {
        allWays();
        howManyTried();
        itEnds();
        askingForWays();
        firstWay();
        rules();
        emptyToFull();
        orderOfCells();
        tillItsOwn();
        without();
        itsOwnIsLaid();
        rimFirst();
        colours();
        forms();
        marks();
        halves();
        bestRules();
        firstPeople();
        dealing();
        eachAlone();
        tenths();
        leastLine();
        tooMany();
        emptyLine();
        end();
    }
}
