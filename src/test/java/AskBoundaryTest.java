import java.math.BigInteger;

/** The boundary cases of part III, of THE IMAGE, and of the promises 21 to 36. */
public final class AskBoundaryTest extends Sentences {
    private static final BigInteger TURN_ROUND = BigInteger.ONE.shiftLeft(32);
    private static final BigInteger FACTOR = BigInteger.valueOf(1664525);
    private static final BigInteger STEP = BigInteger.valueOf(1013904223);

    private static void seemingPairs() {
        says("pairs of sides of two PIECES (not LOST) that are 0 in sum, not both flat, and not of an EDGE of both.");
        due("all classes apart", of(APART).seems(), 0);
        due("twelve nubs by twelve holes, less fourteen in one piece, less twelve edges", new AuntsPuzzle().seems(), 144 - 14 - 12);
        AuntsPuzzle x = of("z22;pf1;");
        due("four nubs by four holes, less two in one piece, less four edges", x.seems(), 16 - 2 - 4);
        layAll(x);
        due("laid ones, too", x.seems(), 10);
        x.lift(1);
        lose(x, 1);
        due("three by three, less one, less two", x.seems(), 9 - 1 - 2);
        x.lift(0);
        x.lift(2);
        lose(x, 0, 2);
        due("one is left", x.seems(), 0);
        x.lift(3);
        lose(x, 3);
        due("none is left", x.seems(), 0);
        due("another side of the same two counts", of("z22;e0r+1;e0d+2;e1d+1;e2r+4;").seems(), 1);
        due("two nubs by two holes, less two edges; nub and nub are no pair", of("z22;e0r+1;e0d+2;e1d-1;e2r+4;").seems(), 4 - 2);
    }

    private static void wrongCells() {
        says("WRONG: how many CELLS have not their own in TURN 0.");
        AuntsPuzzle x = of("z44;pf1;");
        for (int cell = 0; cell < 16; cell++) {
            due(cell + " are right", x.wrong(), 16 - cell);
            lay(x, cell);
        }
        due("a full board", x.wrong(), 0);
        AuntsPuzzle y = of("pf1;");
        y.tryIt(0, 4, 3, 4);
        due("its own, turned", y.wrong(), 9);
        AuntsPuzzle z = turnedRound();
        due("a full board of false ones", z.wrong(), 4);
        due("another in turn 0", ofFalse5().wrong(), 16);
    }

    private static AuntsPuzzle ofFalse5() {
        AuntsPuzzle x = of("z44;pf1;");
        due("5 in cell 6", x.tryIt(0, 5, 0, 6), 2);
        return x;
    }

    /** All four laid, the whole turned by two. */
    private static AuntsPuzzle turnedRound() {
        AuntsPuzzle x = of(APART + "pf1;");
        for (int piece = 0; piece < 4; piece++) {
            due("turned round", x.tryIt(0, piece, 2, 3 - piece), 2);
        }
        return x;
    }

    private static void falseOnes() {
        says("FALSE: the first CELL in which something else is LAID than its own in TURN 0.");
        due("an empty board", new AuntsPuzzle().falseOne(), -9);
        AuntsPuzzle x = turnedRound();
        for (int cell = 0; cell < 4; cell++) {
            due("the first", x.falseOne(), cell);
            x.lift(cell);
        }
        due("none any more", x.falseOne(), -9);
        layAll(x);
        due("a full board", x.falseOne(), -9);
        AuntsPuzzle y = of("pf1;");
        y.tryIt(0, 4, 3, 4);
        due("its own, turned", y.falseOne(), 4);
        due("another in turn 0", ofFalse5().falseOne(), 6);
    }

    private static void overOnes() {
        says("OVER: the least PIECE neither LAID nor LOST that FITS no CELL that is free in any TURN; -9.");
        AuntsPuzzle x = of(APART + "pf1;");
        due("an empty board", x.over(), -9);
        due("0 in cell 1", x.tryIt(0, 0, 1, 1), 2);
        due("all fit cell 2", x.over(), -9);
        due("1 in cell 2", x.tryIt(0, 1, 2, 2), 2);
        due("2 and 3 fit neither cell 0 nor 3", x.over(), 2);
        lose(x, 2);
        due("a lost one is not over", x.over(), 3);
        lose(x, 3);
        due("none is left", x.over(), -9);
        AuntsPuzzle least = of(APART + "pf1;");
        due("3 in cell 1", least.tryIt(0, 3, 3, 1), 2);
        due("2 in cell 2", least.tryIt(0, 2, 0, 2), 1);
        due("0 and 1 fit neither cell 0 nor 3", least.over(), 0);
        AuntsPuzzle full = of("pf1;");
        layAll(full);
        due("a full board", full.over(), -9);
        int[][] round = {{0, 1, 2, 3}, {1, 3, 0, 2}, {3, 2, 1, 0}, {2, 0, 3, 1}};
        for (int turn = 0; turn < 4; turn++) {
            for (int last = 0; last < 4; last++) {
                AuntsPuzzle y = of(APART + "pf1;");
                for (int piece = 0; piece < 4; piece++) {
                    if (piece != last) {
                        y.tryIt(0, piece, turn, round[turn][piece]);
                    }
                }
                due("laid", y.count(3), 3);
                due("the last fits in turn " + turn, y.over(), -9);
            }
        }
    }

    private static void balances() {
        says("BALANCE of a CLASS: NUBS less HOLES of PIECES that are not LOST.");
        AuntsPuzzle x = of("z22;e0r+1;e0d-9;e1d+5;e2r-5;pf1;");
        for (int kind = 1; kind <= 9; kind++) {
            due("nothing is lost", x.balance(kind), 0);
        }
        lay(x, 3);
        due("a laid one counts", x.balance(5), 0);
        lose(x, 0);
        due("a nub of the least class", x.balance(1), -1);
        due("a hole of the greatest class", x.balance(9), 1);
        due("of another class", x.balance(5), 0);
        lose(x, 1, 2);
        due("a nub and a hole of 3 are left", x.balance(5), 0);
        x.lift(3);
        lose(x, 3);
        for (int kind = 1; kind <= 9; kind++) {
            due("all are lost", x.balance(kind), 0);
        }
    }

    private static void askingForBalances() {
        says("BALANCE of a CLASS. Refused as told: -1 (1 .. 9).");
        AuntsPuzzle x = new AuntsPuzzle();
        due("below the least", x.balance(0), FAR + 1);
        due("the least", x.balance(1), 0);
        due("the greatest", x.balance(9), 0);
        due("above the greatest", x.balance(10), FAR + 1);
        due("far below", x.balance(LEAST), FAR + 1);
        due("far above", x.balance(MOST), FAR + 1);
    }

    private static void lacking() {
        says("LACKS: whether some BALANCE is not 0, or flat sides are fewer than all PIECES have.");
        AuntsPuzzle x = new AuntsPuzzle();
        due("nothing is lost", x.lacks(), 0);
        lose(x, 4);
        due("two nubs, two holes, no flat side", x.lacks(), 0);
        lose(x, 2);
        due("its balance", x.balance(1), 0);
        due("flat sides alone", x.lacks(), 1);
        x.find(2);
        due("found", x.lacks(), 0);
        loseAllBut4(x);
        due("all are lost", x.lacks(), 1);
        for (int kind = 1; kind <= 9; kind += 8) {
            AuntsPuzzle y = of("e4r+" + kind + ";e3r-" + kind + ";");
            lose(y, 4);
            due("no flat side, but class " + kind, y.lacks(), 1);
        }
    }

    private static void loseAllBut4(AuntsPuzzle x) {
        for (int piece = 0; piece < 9; piece++) {
            if (piece != 4) {
                lose(x, piece);
            }
        }
    }

    private static void suspects() {
        says("WHICH: PIECES (bits) of which each, if it alone lacked, would make all BALANCES, and how many flat sides there are, as they are now");
        AuntsPuzzle x = of("z44;pf1;");
        int[] wants = {1, 2 + 4 + 16 + 256, 2 + 4 + 16 + 256, 8 + 4096};
        for (int piece = 0; piece < 4; piece++) {
            lose(x, piece);
            due("without " + piece, x.which(), wants[piece]);
            x.find(piece);
        }
        lose(x, 15);
        due("the last bit", x.which(), 1 << 15);
        x.find(15);
        lay(x, 12);
        lose(x, 3);
        due("a laid one, too", x.which(), 8 + 4096);
        lose(x, 0);
        due("two are lost: no one alone", x.which(), 0);
        AuntsPuzzle y = of("z22;e0r+9;e0d+1;e1d+1;e2r+2;");
        lose(y, 0);
        due("1 is as 0, but for the greatest class", y.which(), 1);
    }

    private static void noSuspects() {
        says("as they are now; 0, if not LACKS.");
        AuntsPuzzle x = new AuntsPuzzle();
        due("nothing is lost", x.which(), 0);
        lose(x, 4);
        due("though 4 alone would do", x.which(), 0);
        x.find(4);
        due("found", x.which(), 0);
    }

    private static void whoDid() {
        says("DID: how many PIECES that are LAID a PERSON laid.");
        AuntsPuzzle x = of("z22;pf1;pf1;pf1;pf1;pf1;pf1;");
        for (int cell = 0; cell < 4; cell++) {
            due("before", x.person(5, 2), cell);
            x.tryIt(5, cell, 0, cell);
        }
        due("a full board", x.person(5, 2), 4);
        due("another", x.person(0, 2), 0);
        x.lift(0);
        x.tryIt(0, 0, 0, 0);
        due("what another laid again", x.person(5, 2), 3);
        due("the other", x.person(0, 2), 1);
        read(x, "z22;");
        due("nothing is laid", x.person(5, 2), 0);
    }

    private static void shares() {
        says("MINE: of SECONDS of all TRIES those of a PERSON, in least terms (0 by 1 without any).");
        AuntsPuzzle x = of("pf6;pf4;pf9;");
        due("without any: above", x.mine(0, 0), 0);
        due("without any: below", x.mine(0, 1), 1);
        lay(x, 0);
        due("all of it: above", x.mine(0, 0), 1);
        due("all of it: below", x.mine(0, 1), 1);
        due("none of it: above", x.mine(2, 0), 0);
        due("none of it: below", x.mine(2, 1), 1);
        x.tryIt(1, 4, 0, 1);
        due("6 of 10: above", x.mine(0, 0), 3);
        due("6 of 10: below", x.mine(0, 1), 5);
        due("4 of 10: above", x.mine(1, 0), 2);
        due("4 of 10: below", x.mine(1, 1), 5);
        x.tryIt(2, 4, 0, 1);
        due("9 of 19: above", x.mine(2, 0), 9);
        due("9 of 19: below", x.mine(2, 1), 19);
        x.lift(0);
        due("what is lifted was tried all the same", x.mine(0, 1), 19);
        AuntsPuzzle y = of("pf1;pf1;pf1;");
        y.tryIt(0, 4, 0, 1);
        y.tryIt(1, 4, 0, 1);
        y.tryIt(2, 4, 0, 1);
        due("a third: above", y.mine(2, 0), 1);
        due("a third: below", y.mine(2, 1), 3);
    }

    private static void partsOfShares() {
        says("MINE, part 0 above, 1 below the line. -1; -2.");
        AuntsPuzzle x = of("pf1;pf1;");
        due("below the first person", x.mine(-1, 0), -1);
        due("the last person", x.mine(1, 1), 1);
        due("above the last person", x.mine(2, 0), -1);
        due("below the least part", x.mine(0, -1), -2);
        due("above the greatest part", x.mine(0, 2), -2);
    }

    private static void hardestCut() {
        says("SEEMS is most (none LOST), of several the least.");
        for (String text : new String[] {"z22;", APART, "z23;e0r-9;", "z44;e0d-2;"}) {
            AuntsPuzzle x = of(text);
            due("one class: every nub with every hole", x.hardest(), 1);
            int seems = x.seems();
            loseAll(x);
            due("all are lost", x.hardest(), 1);
            due("they stay so", x.count(4), cellsOf(x));
            for (int piece = 0; piece < cellsOf(x); piece++) {
                x.find(piece);
            }
            due("the cut is as it was", x.seems(), seems);
        }
    }

    private static boolean canWin(int n, int k) {
        boolean[] wins = new boolean[n + 1];
        for (int left = 1; left <= n; left++) {
            for (int lays = 1; lays <= k && lays <= left; lays++) {
                wins[left] |= !wins[left - lays];
            }
        }
        return wins[n];
    }

    private static void lastPiece() {
        says("n PIECES are left, each of two in turn lays 1 .. k; who lays the last wins: 1 the first can, 0 he can not.");
        for (int k : new int[] {1, 2, 3, 50, 98, 99}) {
            AuntsPuzzle x = new AuntsPuzzle();
            for (int n : new int[] {0, 1, 2, 3, k - 1, k, k + 1, k + 2, 2 * k + 1, 2 * k + 2, 2 * k + 3, 998, 999}) {
                due("keeper(" + n + ", " + k + ")", x.keeper(n, k), canWin(n, k) ? 1 : 0);
            }
        }
    }

    private static void limitsOfKeeper() {
        says("KEEPER. -4 below 0, 1; -6 (999; 99).");
        AuntsPuzzle x = new AuntsPuzzle();
        int[][] games = {{0, 1, 0}, {0, 99, 0}, {999, 1, 1}, {999, 99, 1}, {-1, 1, -4}, {0, 0, -4}, {-1, 0, -4}, {1000, 99, -6},
            {999, 100, -6}, {1000, 100, -6}, {-1, 100, -4}, {1000, 0, -4}, {LEAST, MOST, -4}, {MOST, LEAST, -4}, {MOST, MOST, -6}};
        for (int[] game : games) {
            due("keeper(" + game[0] + ", " + game[1] + ")", x.keeper(game[0], game[1]), game[2]);
        }
    }

    /** The draw's own arithmetic, without a wrap-around of its own. */
    private static int next(int z) {
        return BigInteger.valueOf(z).multiply(FACTOR).add(STEP).mod(TURN_ROUND).intValue();
    }

    private static int before(int z) {
        return BigInteger.valueOf(z).subtract(STEP).multiply(FACTOR.modInverse(TURN_ROUND)).mod(TURN_ROUND).intValue();
    }

    private static int below(int z, int m) {
        BigInteger bits = BigInteger.valueOf(z).mod(BigInteger.ONE.shiftLeft(31));
        return bits.divide(BigInteger.valueOf(256)).mod(BigInteger.valueOf(m)).intValue();
    }

    /** What an evening lays, tried for real. */
    private static int triedForReal(AuntsPuzzle x, int n, int seed) {
        int people = x.count(2);
        int cells = cellsOf(x);
        int laid = x.count(3);
        int z = seed;
        for (int i = 0; i < n; i++) {
            int[] drawn = new int[4];
            int[] limits = {people, cells, 4, cells};
            for (int k = 0; k < 4; k++) {
                z = next(z);
                drawn[k] = below(z, limits[k]);
            }
            x.tryIt(drawn[0], drawn[1], drawn[2], drawn[3]);
        }
        return x.count(3) - laid;
    }

    private static void numberOfTries() {
        says("EVENING with a seed z: n TRIES (1 .. 200), in mind");
        for (int n : new int[] {1, 2, 3, 100, 199, 200}) {
            for (int seed : new int[] {0, 1, -1, 7, LEAST, MOST, 123456789, -987654321}) {
                AuntsPuzzle x = of("z23;pf1;pc2;pe3;");
                int told = x.evening(n, seed);
                due("in mind: laid", x.count(3), 0);
                due("in mind: tries", x.count(6), 0);
                due("the same again", x.evening(n, seed), told);
                due("evening(" + n + ", " + seed + ")", told, triedForReal(x, n, seed));
            }
        }
        AuntsPuzzle y = of("pf1;");
        due("none", y.evening(0, 1), -4);
        due("below", y.evening(LEAST, 1), -4);
        due("201", y.evening(201, 1), -6);
        due("far above", y.evening(MOST, 1), -6);
        int[] first = {0, 0};
        for (int seed = 0; seed < 200; seed++) {
            first[y.evening(1, seed)]++;
        }
        due("one try lays one or none, both come", first[0] > 0 && first[1] > 0 ? 1 : 0, 1);
        due("the 200th counts", lastTryCounts(200), 1);
        due("the first counts", lastTryCounts(1), 1);
    }

    /** Whether there is a seed with which the last of n tries lays a piece, as it does when it is tried for real. */
    private static int lastTryCounts(int n) {
        for (int seed = 0; seed < 100000; seed++) {
            AuntsPuzzle x = of("z44;pf1;");
            int all = x.evening(n, seed);
            if (n == 1 ? all == 1 : all == 1 + x.evening(n - 1, seed)) {
                return all == triedForReal(x, n, seed) ? 1 : 0;
            }
        }
        return 0;
    }

    private static void draws() {
        says("A DRAW below m: z becomes z times 1664525 and 1013904223 (an int); (z without its sign's bit by 256, cut) modulo m.");
        int[] edges = {0, 255, 256, 511, 512, -1, -256, -257, MOST, MOST - 255, MOST - 256, LEAST, LEAST + 255, LEAST + 256};
        int[] seen = {0, 0};
        for (int place = 1; place <= 4; place++) {
            for (int edge : edges) {
                for (int far = 0; far < 30; far++) {
                    int seed = edge + 256 * far;
                    for (int i = 0; i < place; i++) {
                        seed = before(seed);
                    }
                    seen[oneDraw(seed)]++;
                }
            }
        }
        due("both come", seen[0] > 100 && seen[1] > 100 ? 1 : 0, 1);
        due("before and next", next(before(LEAST)), LEAST);
    }

    /** One try with all lost but the piece that is due to be drawn: another draw lays nothing. */
    private static int oneDraw(int seed) {
        int z = next(next(seed));
        int piece = below(z, 4);
        z = next(z);
        int turn = below(z, 4);
        int cell = below(next(z), 4);
        AuntsPuzzle x = of("z22;pf1;");
        for (int other = 0; other < 4; other++) {
            if (other != piece) {
                lose(x, other);
            }
        }
        int want = x.fits(piece, turn, cell);
        due("evening(1, " + seed + ")", x.evening(1, seed), want);
        return want;
    }

    private static void orderOfDraws() {
        says("each a DRAW below PEOPLE, below CELLS (PIECE), below 4, below CELLS (CELL)");
        for (int people = 1; people <= 6; people++) {
            for (String size : new String[] {"z22;", "z24;", "z42;", "z44;", "z33;"}) {
                AuntsPuzzle x = of(size + "pf1;".repeat(people));
                int told = x.evening(60, 31 * people);
                due("evening of " + size, told, triedForReal(x, 60, 31 * people));
            }
        }
    }

    private static void laidInMind() {
        says("how many are LAID then that were not (no TRY at a CELL that is LAID, of a PIECE LAID or LOST)");
        AuntsPuzzle full = of("pf1;");
        layAll(full);
        AuntsPuzzle lost = of("pf1;");
        loseAll(lost);
        for (int seed = 0; seed < 50; seed++) {
            due("a full board", full.evening(200, seed), 0);
            due("all are lost", lost.evening(200, seed), 0);
            AuntsPuzzle x = of("pf1;");
            lay(x, 0, 8);
            lose(x, 4, 5);
            int told = x.evening(200, seed);
            due("some laid, some lost", told, triedForReal(x, 200, seed));
            due("4 is not there", x.laid(4, 0), -9);
        }
    }

    private static void noEvening() {
        says("EVENING. -4; -6 200; -3 there are no PEOPLE.");
        AuntsPuzzle x = new AuntsPuzzle();
        due("nobody, none", x.evening(0, 0), -4);
        due("nobody, 1", x.evening(1, 0), -3);
        due("nobody, 200", x.evening(200, 0), -3);
        due("nobody, 201", x.evening(201, 0), -6);
    }

    private static void tell(AuntsPuzzle x, int... row) {
        for (int i = 0; i < row.length; i++) {
            due("row(" + row[i] + ")", x.row(row[i]), i + 1);
        }
    }

    private static void rows() {
        says("A byte (0 .. 99) more of the ROW: how many. -4; -6 (99; 16, too).");
        AuntsPuzzle x = new AuntsPuzzle();
        due("below the least", x.row(-1), -4);
        due("above the greatest", x.row(100), -6);
        due("far below", x.row(LEAST), -4);
        due("far above", x.row(MOST), -6);
        due("none came", x.count(7), 0);
        due("the least", x.row(0), 1);
        due("the greatest", x.row(99), 2);
        for (int n = 3; n <= 16; n++) {
            due("one more", x.row(n), n);
        }
        due("a seventeenth", x.row(0), -6);
        due("a seventeenth below the least", x.row(-1), -4);
        due("sixteen are there", x.count(7), 16);
    }

    private static void judging() {
        says("A ROW of PIECES (bytes; 16 at most), by CELLS (99: none): JUDGED: the first CELL that has not that PIECE; -9");
        AuntsPuzzle x = of("z22;pf1;");
        tell(x, 99, 99, 99, 99);
        due("an empty board", x.judge(), -9);
        x.tryIt(0, 0, 2, 3);
        tell(x, 99, 99, 99, 0);
        due("its turn does not count", x.judge(), -9);
        for (int cell = 0; cell < 4; cell++) {
            int[] row = {99, 99, 99, 0};
            row[cell] = 98;
            tell(x, row);
            due("another piece told", x.judge(), cell);
        }
        tell(x, 1, 99, 99, 1);
        due("the first of two", x.judge(), 0);
        tell(x, 99, 99, 99, 99);
        due("something lies that is not told", x.judge(), 3);
        AuntsPuzzle y = of("z44;pf1;");
        layAll(y);
        int[] all = new int[16];
        for (int cell = 0; cell < 16; cell++) {
            all[cell] = cell;
        }
        tell(y, all);
        due("a full board of 16", y.judge(), -9);
        all[15] = 99;
        tell(y, all);
        due("none told in the last", y.judge(), 15);
    }

    private static void shortAndLong() {
        says("where it ends, if too short; how many CELLS, if too long.");
        for (int cells : new int[] {4, 6, 8, 9, 12, 16}) {
            int rows = cells == 9 ? 3 : cells == 4 ? 2 : cells == 6 ? 2 : cells == 8 ? 2 : cells == 12 ? 3 : 4;
            for (int told = 0; told <= 16; told++) {
                AuntsPuzzle x = of("z" + rows + cells / rows + ";");
                for (int i = 0; i < told; i++) {
                    x.row(99);
                }
                due(told + " of " + cells, x.judge(), told < cells ? told : told > cells ? cells : -9);
            }
        }
        AuntsPuzzle y = of("z22;");
        tell(y, 99, 0);
        due("another piece ahead of too short", y.judge(), 1);
        tell(y, 99, 99, 99, 0, 99);
        due("another piece ahead of too long", y.judge(), 3);
    }

    private static void rowBehindJudge() {
        says("JUDGED; -9 (the ROW has none then).");
        AuntsPuzzle x = of("z22;");
        int[][] rows = {{}, {99}, {0}, {99, 99, 99, 99}, {99, 99, 99, 99, 99}};
        int[] wants = {0, 1, 0, -9, 4};
        for (int i = 0; i < rows.length; i++) {
            tell(x, rows[i]);
            due("judge()", x.judge(), wants[i]);
            due("the row behind it", x.count(7), 0);
        }
        due("that is no refusal", x.count(13) + x.count(14) + x.count(16), 0);
    }

    private static void imageIsTaken() {
        says("THE IMAGE is taken: how many are LAID.");
        AuntsPuzzle x = of("z22;pf1;");
        for (int cell = 0; cell < 4; cell++) {
            due(cell + " are laid", x.image(), cell);
            lay(x, cell);
        }
        due("a full board", x.image(), 4);
        lose(liftAll(x), 0, 1, 2, 3);
        due("all are lost", x.image(), 0);
    }

    private static AuntsPuzzle liftAll(AuntsPuzzle x) {
        for (int cell = 0; cell < cellsOf(x); cell++) {
            x.lift(cell);
        }
        return x;
    }

    private static void onWithout() {
        says("ON from it: how many are LAID. -3 there is none.");
        AuntsPuzzle x = of("z22;pf1;");
        due("none was taken", x.on(), -3);
        due("an empty one", x.image(), 0);
        layAll(x);
        due("on from an empty one", x.on(), 0);
        due("nothing is laid", x.count(3), 0);
        layAll(x);
        due("a full one", x.image(), 4);
        liftAll(x);
        due("on from a full one", x.on(), 4);
        due("on again", x.on(), 4);
        due("all are laid", x.wrong(), 0);
    }

    private static void allIsAsThen() {
        says("THE IMAGE: PUZZLE, PEOPLE, what is LAID, LOST, who laid what, SECONDS; ON from it all is as then.");
        AuntsPuzzle x = of("z24;e0r-9;c7,9;pf1;pf2;");
        x.tryIt(1, 7, 0, 7);
        x.tryIt(0, 0, 2, 0);
        lose(x, 3, 4);
        int tried = x.ways(1);
        x.image();
        x.find(4);
        x.lift(7);
        x.tryIt(0, 7, 0, 7);
        x.tryIt(0, 4, 0, 4);
        due("another puzzle", read(x, "pf3;z44;e14r+8;c7,1;"), 4);
        due("which has other ways", x.ways(1), 20001);
        due("on()", x.on(), 1);
        due("rows", x.count(0), 2);
        due("columns", x.count(1), 4);
        due("an edge", x.side(0, 0, 1), -9);
        due("the rim", x.side(7, 0, 1) + x.side(7, 0, 2), 0);
        due("a colour", x.colour(7), 9);
        due("people", x.count(2), 2);
        due("no person more", x.person(2, 0), -1);
        due("what is laid", x.laid(7, 0), 7);
        due("who laid it", x.laid(7, 2), 1);
        due("what is not", x.laid(4, 0), -9);
        due("lost", x.count(4), 2);
        due("which", x.find(3) * 10 + x.find(4), 10);
        due("DID", x.person(1, 2), 1);
        due("SECONDS of 0", x.person(0, 3), 1);
        due("SECONDS of 1", x.person(1, 3), 2);
        due("its ways", x.ways(1), tried);
        due("the first of them", x.first(7, 0), 7);
    }

    private static void counts() {
        says("11 .. 16 REFUSALS -1 .. -6. -9 for another what.");
        AuntsPuzzle x = of("z43;pf1;pf1;");
        int[] wants = {4, 3, 2, 0, 0, 17, 0, 0, 0, -9, -9, 0, 0, 0, 0, 0, 0, -9};
        for (int what = 0; what < wants.length; what++) {
            due("count(" + what + ")", x.count(what), wants[what]);
        }
        for (int what : new int[] {-1, LEAST, 9, 10, 17, MOST}) {
            due("count(" + what + ")", x.count(what), -9);
        }
        for (int what = 11; what <= 16; what++) {
            due("no refusal of it", x.count(what), 0);
        }
    }

    private static void innerEdges() {
        says("5 inner EDGES, 6 TRIES so far, 7 in the ROW, 8 bytes on THE TAPE");
        int[][] edges = {{22, 4}, {23, 7}, {24, 10}, {32, 7}, {33, 12}, {34, 17}, {42, 10}, {43, 17}, {44, 24}};
        for (int[] one : edges) {
            due("edges of " + one[0], of("z" + one[0] + ";").count(5), one[1]);
        }
        AuntsPuzzle x = of("pf1;");
        x.tryIt(0, 4, 0, 0);
        x.tryIt(0, 4, 0, 4);
        x.tryIt(0, 4, 0, 4);
        due("tries without the refused one", x.count(6), 2);
        for (int n = 0; n < 16; n++) {
            due("in the row", x.count(7), n);
            x.row(n);
        }
        due("a full row", x.count(7), 16);
        for (int n = 0; n < 64; n++) {
            due("on the tape", x.count(8), n);
            x.feed(1, 0L);
        }
        due("a full tape", x.count(8), 64);
    }

    private static void manyCalls() {
        says("An object is used for at most 512 calls after it has been made");
        AuntsPuzzle x = new AuntsPuzzle();
        due("the first: \"pf9;\"", x.feed(4, 0x3B396670L), 4);
        due("the second", x.puzzle(), 1);
        for (int call = 3; call <= 510; call++) {
            due("call " + call, x.row(99), call < 19 ? call - 2 : -6);
        }
        due("the 511th", x.count(16), 492);
        due("the 512th", x.done(4, 0), 27 + 81);
    }

    public static void main(String[] args) {
        seemingPairs();
        wrongCells();
        falseOnes();
        overOnes();
        balances();
        askingForBalances();
        lacking();
        suspects();
        noSuspects();
        whoDid();
        shares();
        partsOfShares();
        hardestCut();
        lastPiece();
        limitsOfKeeper();
        numberOfTries();
        draws();
        orderOfDraws();
        laidInMind();
        noEvening();
        rows();
        judging();
        shortAndLong();
        rowBehindJudge();
        imageIsTaken();
        onWithout();
        allIsAsThen();
        counts();
        innerEdges();
        manyCalls();
        end();
    }
}
