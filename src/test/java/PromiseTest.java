/** Each promise of the document with answers worked out by hand: ordinary calls, edges, and wrong calls. */
public final class PromiseTest {
    private static int wrong = 0;
    private static int asked = 0;

    private static void due(int promise, String call, int got, int want) {
        asked++;
        if (got != want) {
            wrong++;
            System.out.println("promise " + promise + ": " + call + " answered " + got + ", due is " + want);
        }
    }

    private static void feedText(AuntsPuzzle x, String text) {
        for (int from = 0; from < text.length(); from += 8) {
            int n = Math.min(8, text.length() - from);
            long bytes = 0;
            for (int i = 0; i < n; i++) {
                bytes |= (long) text.charAt(from + i) << (8 * i);
            }
            x.feed(n, bytes);
        }
    }

    private static int read(AuntsPuzzle x, String text) {
        feedText(x, text);
        return x.puzzle();
    }

    private static AuntsPuzzle of(String text) {
        AuntsPuzzle x = new AuntsPuzzle();
        int answer = read(x, text);
        if (answer < 1) {
            due(3, "the test's own text " + text, answer, 1);
        }
        return x;
    }

    private static void newObject() {
        AuntsPuzzle x = new AuntsPuzzle();
        int[] wants = {3, 3, 0, 0, 0, 12, 0, 0, 0, -9, -9, 0, 0, 0, 0, 0, 0, -9};
        for (int what = 0; what < wants.length; what++) {
            due(1, "count(" + what + ")", x.count(what), wants[what]);
        }
        for (int cell = 0; cell < 9; cell++) {
            due(1, "colour", x.colour(cell), 0);
            due(1, "laid", x.laid(cell, 0), -9);
            due(1, "up", x.side(cell, 0, 0), cell < 3 ? 0 : -1);
            due(1, "right", x.side(cell, 0, 1), cell % 3 == 2 ? 0 : 1);
            due(1, "down", x.side(cell, 0, 2), cell > 5 ? 0 : 1);
            due(1, "left", x.side(cell, 0, 3), cell % 3 == 0 ? 0 : -1);
        }
        due(1, "on()", x.on(), -3);
    }

    private static void feeding() {
        AuntsPuzzle x = new AuntsPuzzle();
        due(2, "feed(0)", x.feed(0, 1L), -4);
        due(2, "feed(least)", x.feed(Integer.MIN_VALUE, 1L), -4);
        due(2, "feed(9)", x.feed(9, 1L), -6);
        due(2, "feed(most)", x.feed(Integer.MAX_VALUE, 1L), -6);
        due(2, "feed(1)", x.feed(1, -1L), 1);
        for (int i = 1; i < 8; i++) {
            due(2, "feed(8)", x.feed(8, 0L), 8 * i + 1);
        }
        due(2, "feed(8) above 64", x.feed(8, 0L), -6);
        due(2, "feed(7)", x.feed(7, 0L), 64);
        due(2, "feed(1) above 64", x.feed(1, 0L), -6);
        due(2, "count(8)", x.count(8), 64);
        due(2, "count(14)", x.count(14), 2);
        due(2, "count(16)", x.count(16), 4);
        AuntsPuzzle y = new AuntsPuzzle();
        y.feed(2, 0x3B33000000006670L);
        y.feed(2, 0x7F7F7F7F7F7F3B33L);
        due(2, "bytes above n are left out", y.puzzle(), 1);
        due(2, "the lowest came first", y.person(0, 1), 3);
    }

    private static void faultOfBytes() {
        String[] texts = {"", ";", "z", "z3", "z33", "z33;z", "z333;", "za3;", "Z33;", "z33;;", "e", "e1", "e12", "e123r+1;",
            "er+1;", "e1x", "e1r", "e1r1;", "e1r+", "e1r+a", "e1r+1", "e1r+12;", "c1", "c1;", "c12,", "c1,;", "c1,12;",
            "c123,1;", "p", "px1;", "pf;", "pf1", "pf12;", "pF1;", " pf1;", "pf1; ", "e1u+1;", "e1d*1;", "z+3;"};
        int[] places = {0, 0, 1, 2, 3, 5, 3, 1, 0, 4, 1, 2, 3, 3,
            1, 2, 3, 3, 4, 4, 5, 5, 2, 2, 4, 3, 4,
            3, 1, 1, 2, 3, 3, 1, 0, 4, 2, 3, 1};
        AuntsPuzzle x = new AuntsPuzzle();
        for (int i = 0; i < texts.length; i++) {
            due(3, "puzzle() of " + texts[i], read(x, texts[i]), -1000 - places[i]);
            due(3, "the tape behind it", x.count(8), 0);
        }
        due(3, "a bad byte is told ahead of a bad statement", read(x, "z99;pf0;x"), -1008);
        due(3, "a byte above 127", read(x, "pf" + (char) 255 + ";"), -1002);
        String full = "c0,0;c0,0;c0,0;c0,0;c0,0;c0,0;c0,0;c0,0;c0,0;c0,0;c0,0;c0,0;";
        due(3, "64 bytes, something lacks at the end", read(new AuntsPuzzle(), full + "z33c"), -1063);
        due(3, "64 bytes, the end", read(new AuntsPuzzle(), full + "e00r"), -1064);
        due(3, "64 bytes", read(new AuntsPuzzle(), full + "z33;"), 13);
        for (int what = 11; what <= 16; what++) {
            due(3, "nothing is counted", x.count(what), 0);
        }
    }

    private static void faultOfStatements() {
        AuntsPuzzle x = new AuntsPuzzle();
        String[] texts = {"z13;", "z31;", "z53;", "z35;", "z00;", "e9r+1;", "e09d+1;", "e99r+1;", "e2r+1;", "e8r+1;",
            "e6d-1;", "e0r+0;", "c9,0;", "c99,0;", "pf0;", "pf1;c0,1;e6d+1;", "z22;c4,1;", "z24;e3r+1;", "pc1;z33;z34;z43;z45;"};
        int[] places = {0, 0, 0, 0, 0, 0, 0, 0, 0, 0, 0, 0, 0, 0, 0, 9, 4, 4, 16};
        for (int i = 0; i < texts.length; i++) {
            due(3, "puzzle() of " + texts[i], read(x, texts[i]), -2000 - places[i]);
        }
        due(3, "with a fault nothing comes: people", x.count(2), 0);
        due(3, "with a fault nothing comes: rows", x.count(0), 3);
        due(3, "with a fault nothing comes: colour", x.colour(0), 0);
        due(3, "six people", read(x, "pf1;pc2;pe3;pl4;ps5;pf6;"), 6);
        due(3, "a seventh", read(x, "c0,1;pf1;"), -2005);
        due(3, "colour", x.colour(0), 0);
        AuntsPuzzle y = of("pf1;pf1;pf1;pf1;");
        due(3, "too many together", read(y, "pf1;pf1;pf1;"), -2008);
        due(3, "people", y.count(2), 4);
    }

    private static void puzzles() {
        AuntsPuzzle x = new AuntsPuzzle();
        due(3, "edges", read(x, "e00r-7;e4d+9;e3d-2;c08,5;"), 4);
        due(3, "a hole", x.side(0, 0, 1), -7);
        due(3, "its nub", x.side(1, 0, 3), 7);
        due(3, "a nub down", x.side(4, 0, 2), 9);
        due(3, "its hole", x.side(7, 0, 0), -9);
        due(3, "a hole down", x.side(3, 0, 2), -2);
        due(3, "its nub", x.side(6, 0, 0), 2);
        due(3, "colour", x.colour(8), 5);
        due(3, "a person", read(x, "pf1;"), 1);
        x.tryIt(0, 0, 0, 0);
        x.pocket(4);
        due(3, "an edge more", read(x, "e0r+3;c0,9;"), 2);
        due(3, "what is laid stays", x.laid(0, 0), 0);
        due(3, "what is lost stays", x.count(4), 1);
        due(3, "the other edges stay", x.side(4, 0, 2), 9);
        due(3, "size", read(x, "z42;e2d+3;"), 2);
        due(3, "rows", x.count(0), 4);
        due(3, "columns", x.count(1), 2);
        due(3, "nothing is laid", x.count(3), 0);
        due(3, "none is lost", x.count(4), 0);
        due(3, "people stay", x.count(2), 1);
        due(3, "seconds stay", x.person(0, 3), 1);
        due(3, "tries stay", x.count(6), 1);
        due(3, "colours are as at first", x.colour(0), 0);
        due(3, "edges are as at first", x.side(0, 0, 1), 1);
        due(3, "but for what came behind", x.side(2, 0, 2), 3);
        due(3, "and its other side", x.side(4, 0, 0), -3);
        due(3, "a cell of the last row", x.side(7, 0, 2), 0);
    }

    private static void sides() {
        AuntsPuzzle x = of("e4r+2;e1d-3;e4d+4;e3r-5;");
        int[] up = {3, 2, 4, 5};
        for (int turn = 0; turn < 4; turn++) {
            for (int side = 0; side < 4; side++) {
                due(4, "side(4, " + turn + ", " + side + ")", x.side(4, turn, side), up[(side + 4 - turn) % 4]);
            }
        }
        due(4, "side(0, 1, 1)", x.side(0, 1, 1), 0);
        due(4, "side(0, 1, 2)", x.side(0, 1, 2), 1);
        due(4, "side(-1, 9, 9)", x.side(-1, 9, 9), 1000000001);
        due(4, "side(9, 0, 0)", x.side(9, 0, 0), 1000000001);
        due(4, "side(0, -1, 0)", x.side(0, -1, 0), 1000000002);
        due(4, "side(0, 4, 0)", x.side(0, 4, 0), 1000000002);
        due(4, "side(0, 0, 4)", x.side(0, 0, 4), 1000000002);
        due(4, "side(0, 0, -1)", x.side(0, 0, -1), 1000000002);
        due(4, "count(11)", x.count(11), 2);
        due(4, "count(12)", x.count(12), 4);
    }

    private static void coloursAndPeople() {
        AuntsPuzzle x = of("c2,7;c8,9;pf1;pc2;pe3;pl4;ps9;");
        due(5, "colour(2)", x.colour(2), 7);
        due(5, "colour(8)", x.colour(8), 9);
        due(5, "colour(0)", x.colour(0), 0);
        due(5, "colour(9)", x.colour(9), -1);
        due(5, "colour(-1)", x.colour(-1), -1);
        int[] paces = {1, 2, 3, 4, 9};
        for (int person = 0; person < 5; person++) {
            due(6, "KIND", x.person(person, 0), person);
            due(6, "PACE", x.person(person, 1), paces[person]);
            due(6, "DID", x.person(person, 2), 0);
            due(6, "SECONDS", x.person(person, 3), 0);
        }
        due(6, "person(5, 0)", x.person(5, 0), -1);
        due(6, "person(-1, 9)", x.person(-1, 9), -1);
        due(6, "person(0, 4)", x.person(0, 4), -2);
        due(6, "person(0, -1)", x.person(0, -1), -2);
        x.tryIt(4, 0, 0, 0);
        x.tryIt(4, 8, 0, 8);
        x.tryIt(4, 4, 0, 1);
        x.tryIt(0, 1, 0, 1);
        due(6, "DID", x.person(4, 2), 2);
        due(6, "SECONDS", x.person(4, 3), 33);
        due(6, "DID of another", x.person(0, 2), 1);
        x.lift(8);
        due(6, "DID without what was lifted", x.person(4, 2), 1);
        due(6, "SECONDS as before", x.person(4, 3), 33);
    }

    private static void laidAndFits() {
        AuntsPuzzle x = of("z22;pf1;pf1;");
        due(7, "laid(3, 0)", x.laid(3, 0), -9);
        due(7, "laid(3, 2)", x.laid(3, 2), -9);
        due(7, "a seeming one", x.tryIt(1, 0, 2, 3), 2);
        due(7, "piece", x.laid(3, 0), 0);
        due(7, "turn", x.laid(3, 1), 2);
        due(7, "who", x.laid(3, 2), 1);
        due(7, "laid(4, 3)", x.laid(4, 3), -1);
        due(7, "laid(-1, 0)", x.laid(-1, 0), -1);
        due(7, "laid(3, 3)", x.laid(3, 3), -2);
        due(7, "laid(0, -1)", x.laid(0, -1), -2);
        due(8, "beside it: two holes", x.fits(3, 1, 2), 1);
        due(8, "its own beside a nub", x.fits(2, 0, 2), 0);
        due(8, "far from it", x.fits(0, 0, 0), 1);
        due(8, "beside where it lies itself", x.fits(0, 1, 1), 1);
        due(8, "in its own cell's rim", x.fits(0, 0, 1), 0);
        due(8, "where something lies", x.fits(3, 0, 3), 1);
        x.pocket(3);
        due(8, "a lost one", x.fits(3, 1, 2), 1);
        due(8, "fits(4, 9, 0)", x.fits(4, 9, 0), -1);
        due(8, "fits(0, 9, 4)", x.fits(0, 9, 4), -1);
        due(8, "fits(-1, 0, 0)", x.fits(-1, 0, 0), -1);
        due(8, "fits(0, 4, 0)", x.fits(0, 4, 0), -2);
        due(8, "fits(0, -1, 0)", x.fits(0, -1, 0), -2);
        AuntsPuzzle y = new AuntsPuzzle();
        due(8, "an inner piece at the rim", y.fits(4, 0, 1), 0);
        due(8, "one of the rim inside", y.fits(1, 0, 4), 0);
        due(8, "any turn inside", y.fits(4, 3, 4), 1);
    }

    private static void secondsOfTries() {
        AuntsPuzzle x = of("c4,3;c1,3;c0,2;pf3;pc5;pe5;pl3;ps3;");
        due(9, "FORM", x.seconds(0, 4, 0, 1), 3);
        due(9, "COLOUR, another", x.seconds(1, 4, 0, 0), 5);
        due(9, "COLOUR, the same", x.seconds(1, 4, 0, 1), 3);
        due(9, "EDGER at the rim", x.seconds(2, 4, 0, 1), 3);
        due(9, "EDGER inside", x.seconds(2, 0, 0, 4), 10);
        due(9, "LAMP, another", x.seconds(3, 0, 0, 2), 3);
        due(9, "LAMP, the same", x.seconds(3, 2, 1, 5), 2);
        due(9, "LAMP, a blue piece", x.seconds(3, 4, 0, 0), 9);
        due(9, "LAMP, a blue piece in a blue cell", x.seconds(3, 4, 0, 1), 9);
        due(9, "LAMP, a blue cell", x.seconds(3, 0, 0, 4), 3);
        due(9, "SLOW", x.seconds(4, 4, 0, 1), 5);
        due(9, "FORM, seeming", x.seconds(0, 4, 1, 4), 6);
        due(9, "COLOUR, seeming", x.seconds(1, 4, 1, 4), 6);
        due(9, "EDGER, seeming", x.seconds(2, 2, 3, 0), 6);
        due(9, "LAMP, seeming", x.seconds(3, 4, 2, 4), 18);
        due(9, "SLOW, seeming", x.seconds(4, 4, 2, 4), 10);
        due(9, "SLOW, fitting", x.seconds(4, 4, 0, 4), 5);
        due(9, "seconds(5, 0, 4, 0)", x.seconds(5, 0, 4, 0), -1);
        due(9, "seconds(-1, 0, 0, 0)", x.seconds(-1, 0, 0, 0), -1);
        due(9, "seconds(0, 9, 4, 0)", x.seconds(0, 9, 4, 0), -1);
        due(9, "seconds(0, 0, 4, 9)", x.seconds(0, 0, 4, 9), -1);
        due(9, "seconds(0, 0, 4, 0)", x.seconds(0, 0, 4, 0), -2);
        x.tryIt(0, 0, 0, 0);
        due(9, "the cell is laid", x.seconds(0, 4, 0, 0), -3);
        due(9, "the cell is laid, turn", x.seconds(0, 4, 4, 0), -2);
        due(9, "a piece that is laid", x.seconds(0, 0, 1, 2), 6);
        x.pocket(4);
        due(9, "a lost piece", x.seconds(0, 4, 0, 4), 3);
        due(9, "nothing is tried", x.count(6), 1);
    }

    private static void tries() {
        AuntsPuzzle x = of("pf2;ps1;");
        due(10, "FITTING", x.tryIt(0, 0, 0, 0), 1);
        due(10, "the cell is laid", x.tryIt(0, 1, 0, 0), -3);
        due(10, "the piece is laid", x.tryIt(0, 0, 0, 1), -3);
        due(10, "FAILED", x.tryIt(0, 4, 0, 1), 3);
        due(10, "FORMED, nub to nub", x.tryIt(1, 3, 1, 1), 4);
        due(10, "FORMED, nub to nub", x.tryIt(1, 7, 2, 1), 4);
        due(10, "SEEMING", x.tryIt(1, 5, 3, 1), 2);
        x.pocket(8);
        due(10, "a lost one", x.tryIt(0, 8, 0, 8), -3);
        due(10, "tryIt(2, 0, 4, 0)", x.tryIt(2, 0, 4, 0), -1);
        due(10, "tryIt(0, 9, 4, 0)", x.tryIt(0, 9, 4, 0), -1);
        due(10, "tryIt(0, 0, 4, 9)", x.tryIt(0, 0, 4, 9), -1);
        due(10, "tryIt(0, 0, 4, 0)", x.tryIt(0, 0, 4, 0), -2);
        due(10, "tryIt(0, 0, -1, 0)", x.tryIt(0, 0, -1, 0), -2);
        due(10, "TRIES", x.count(6), 5);
        due(10, "LAID", x.count(3), 2);
        due(10, "SECONDS", x.person(0, 3), 4);
        due(10, "SECONDS, a seeming one among them", x.person(1, 3), 12);
        due(10, "what seemed to fit is laid", x.laid(1, 0), 5);
        due(10, "so turned", x.laid(1, 1), 3);
        due(10, "by whom", x.laid(1, 2), 1);
        AuntsPuzzle y = of("z22;pf1;");
        y.tryIt(0, 0, 2, 3);
        due(10, "its own that does not fit beside a false one", y.tryIt(0, 2, 0, 2), 4);
        due(10, "is not laid", y.laid(2, 0), -9);
    }

    private static void liftPocketFind() {
        AuntsPuzzle x = of("pf1;");
        due(11, "lift(0)", x.lift(0), -3);
        due(11, "lift(9)", x.lift(9), -1);
        due(11, "lift(-1)", x.lift(-1), -1);
        x.tryIt(0, 6, 1, 0);
        due(11, "what was laid", x.laid(0, 0), 6);
        due(12, "a laid one", x.pocket(6), -3);
        due(11, "lift(0)", x.lift(0), 6);
        due(11, "nothing is laid", x.count(3), 0);
        due(11, "DID", x.person(0, 2), 0);
        due(12, "pocket(6)", x.pocket(6), 1);
        due(12, "pocket(0)", x.pocket(0), 2);
        due(12, "a lost one", x.pocket(0), -3);
        due(12, "pocket(9)", x.pocket(9), -1);
        due(12, "pocket(-1)", x.pocket(-1), -1);
        due(12, "count(4)", x.count(4), 2);
        due(13, "find(6)", x.find(6), 1);
        due(13, "find(6)", x.find(6), -3);
        due(13, "find(9)", x.find(9), -1);
        due(13, "find(-1)", x.find(-1), -1);
        due(13, "find(0)", x.find(0), 0);
        due(13, "it can be laid again", x.tryIt(0, 0, 0, 0), 1);
        due(13, "count(13)", x.count(13), 4);
    }

    /** Two by two with four classes has one way in each of four turns; tries are counted by hand there. */
    private static void waysToLay() {
        AuntsPuzzle x = of("z22;e0r+1;e0d+2;e1d+3;e2r+4;pf1;");
        due(14, "WAYS", x.ways(0), 4);
        x.tryIt(0, 3, 2, 0);
        x.pocket(2);
        due(14, "WAYS, whatever is laid or lost", x.ways(0), 4);
        due(14, "ways(2)", x.ways(2), -2);
        due(14, "ways(-1)", x.ways(-1), -2);
        due(14, "TRIED: 16 + 4 * (12 + 8 + 4)", x.ways(1), 16 + 4 * (12 + 8 + 4));
        for (int cell = 0; cell < 4; cell++) {
            due(15, "PIECE", x.first(cell, 0), cell);
            due(15, "TURN", x.first(cell, 1), 0);
        }
        due(15, "first(4, 2)", x.first(4, 2), -1);
        due(15, "first(-1, 0)", x.first(-1, 0), -1);
        due(15, "first(0, 2)", x.first(0, 2), -2);
        due(15, "first(0, -1)", x.first(0, -1), -2);
        due(14, "another cut", read(x, "z44;"), 1);
        due(14, "it ended", x.ways(0), -9);
        due(14, "TRIED", x.ways(1), 20001);
        due(15, "the first stands", x.first(15, 0), 15);
        x.image();
        due(14, "the old size", read(x, "z22;"), 1);
        due(14, "four alike in turns", x.ways(1) <= 20000 ? 1 : 0, 1);
        x.on();
        due(14, "ways as in the image", x.ways(1), 20001);
        due(15, "first as in the image", x.first(15, 0), 15);
    }

    private static void plans() {
        AuntsPuzzle x = of("c4,3;c5,3;pf2;pc5;pe3;pl2;ps1;");
        due(16, "PLAIN", x.done(0, 0), 18);
        due(16, "EDGER", x.done(0, 2), 8 * 2 + 6);
        due(16, "COLOUR by COLOURS", x.done(2, 1), 18 + 9 * 3);
        due(16, "FORM by FORMS", x.done(3, 0), 27 + 18);
        due(17, "half by FORMS", x.half(3, 0), 27 + 8);
        due(17, "LAMP, half by COLOURS", x.half(2, 3), 18 + 4);
        due(17, "EDGER, half by RIM FIRST", x.half(1, 2), 8);
        due(18, "FORM's best", x.bestRule(0), 0);
        x.tryIt(0, 1, 0, 1);
        x.pocket(0);
        // Cell 0 goes without: 7 pieces in 4 turns. Of them the corners 2, 6, 8 and no other are 0 just at the rim there:
        // 2 in turn 3 and 6 in turn 1 lie with a nub or a hole at piece 1's hole, 8 in turn 2 with a hole.
        int corner = 2 * (7 * 4);
        int seemingThere = (x.fits(2, 3, 0) + x.fits(6, 1, 0) + x.fits(8, 2, 0)) * 2;
        due(16, "a cell that goes without", x.done(0, 0), corner + seemingThere + 7 * 2);
        due(17, "its half", x.half(0, 0), corner + seemingThere + 3 * 2);
        due(16, "RIM FIRST leaves the inner one out", x.done(1, 0), 2 * (6 * 4) + seemingThere + 7 * 2);
        due(16, "FORMS: 1, 3 and 4 have two nubs as 0 has", x.done(3, 0), 21 + 2 * (2 * 4) + 7 * 2);
        due(16, "MARKS: all those fail in other sides", x.done(4, 0), 21 + 2 * (2 * 4) + 7 * 2);
        due(18, "best by forms, ahead of marks that take as long", x.bestRule(0), 3);
        due(16, "done(5, 9)", x.done(5, 9), -2);
        due(16, "done(-1, 0)", x.done(-1, 0), -2);
        due(16, "done(0, 5)", x.done(0, 5), -1);
        due(16, "done(4, -1)", x.done(4, -1), -1);
        due(17, "half(5, 9)", x.half(5, 9), -2);
        due(17, "half(0, 5)", x.half(0, 5), -1);
        due(18, "bestRule(5)", x.bestRule(5), -1);
        due(18, "bestRule(-1)", x.bestRule(-1), -1);
        due(16, "nothing is tried", x.count(6), 1);
        due(16, "nothing is laid", x.count(3), 1);
    }

    private static void marksAndEnds() {
        // Nubs go round, 0 to 1 to 3 to 2 to 0: all four pieces are alike but for their turns.
        AuntsPuzzle x = of("z22;e0d-1;e2r-1;pf1;");
        x.pocket(0);
        due(16, "FORMS: 12 tries in cell 0, of which three seem to fit", x.done(3, 0), 9 + 12 + 3 + 3);
        due(16, "MARKS: there three seem to fit, and what fails is tried once", x.done(4, 0), 9 + 3 * 2 + 3 + 3);
        x.find(0);
        for (int piece = 0; piece < 4; piece++) {
            x.tryIt(0, piece, 0, piece);
        }
        due(16, "all is laid", x.done(4, 0), 0);
        due(17, "all is laid", x.half(4, 0), 0);
        due(18, "all is laid", x.bestRule(0), 0);
        due(19, "all is laid", x.table(2, 1), 0);
        x.lift(3);
        due(17, "one cell: half of it is the whole", x.half(0, 0), 1);
        // Piece 0 lies in cell 3, so cell 0 goes without: 12 tries, of which one of each piece seems to fit. In cells 1 and 2
        // the own piece comes first, nub to nub.
        AuntsPuzzle y = of("z22;pf1;");
        y.tryIt(0, 0, 2, 3);
        due(16, "its own is laid, fitting or not", y.done(0, 0), 12 + 3 + 1 + 1);
        // Pieces 0 and 1 are alike but for a turn; 3 lies in cell 0 and makes both fail in cell 1. By FORMS 0 is tried there in
        // four turns and 1 is laid then; by MARKS 1 is not tried there any more. Cell 2's own comes first; 3's is laid.
        AuntsPuzzle z = of("z22;e0r+1;e0d-1;e1d+1;e2r+2;pf1;");
        due(10, "3 in cell 0", z.tryIt(0, 3, 2, 0), 2);
        due(16, "FORMS", z.done(3, 0), 9 + 4 + 1 + 1);
        due(16, "MARKS, its own among what is not tried", z.done(4, 0), 9 + 4 + 1);
    }

    private static void tables() {
        AuntsPuzzle x = of("pf3;pf3;pf3;pf3;pf3;");
        // PLAIN, two people: the second has cells 1, 3, 5, 7 and finds 0, then 0 and 2, and so on, ahead of its own.
        due(19, "one alone", x.table(0, 1), 27);
        due(19, "table(5, 0)", x.table(5, 0), -2);
        due(19, "table(-1, 1)", x.table(-1, 1), -2);
        due(19, "table(0, 0)", x.table(0, 0), -4);
        due(19, "table(0, 6)", x.table(0, 6), -6);
        due(20, "line(5)", x.line(5), -2);
        due(20, "line(-1)", x.line(-1), -2);
        due(20, "one alone is best, for the others must look for theirs", x.line(0), 1);
        due(20, "nobody", new AuntsPuzzle().line(4), -9);
        // By COLOURS with a colour for each cell everybody finds only the own: 9 cells, dealt round.
        AuntsPuzzle y = of("c1,1;c2,2;c3,3;c4,4;c5,5;c6,6;c7,7;c8,8;pf5;pf5;pf5;pf5;");
        due(19, "one", y.table(2, 1), 45 + 18);
        due(19, "two: five cells", y.table(2, 2), 25 + 18);
        due(19, "three: three cells", y.table(2, 3), 15 + 18);
        due(19, "four: three cells, and a tenth of 15, cut", y.table(2, 4), 15 + 1 + 18);
        due(20, "three", y.line(2), 3);
        AuntsPuzzle z = of("c1,1;c2,2;c3,3;c4,4;c5,5;c6,6;c7,7;c8,8;pf9;pf9;pf9;pf9;");
        read(z, "pf9;pf9;");
        due(19, "five: two cells, a tenth of 18, cut, for each of two", z.table(2, 5), 18 + 2 + 18);
        due(19, "six: two cells", z.table(2, 6), 18 + 3 + 18);
        due(20, "five", z.line(2), 5);
        z.pocket(0);
        z.tryIt(0, 8, 0, 8);
        due(19, "sorting once for each that is there", z.table(2, 1), 7 * 9 + 14);
        // One who did not work stays as fast as can be: the longest of all counts.
        AuntsPuzzle w = of("z22;c1,1;c2,2;c3,3;pf1;pf9;");
        due(19, "the slower one", w.table(2, 2), 18 + 8);
        due(20, "alone is faster", w.line(2), 1);
        AuntsPuzzle v = of("z22;c1,1;c2,2;c3,3;pf9;pf1;");
        due(20, "two are faster, for it is dealt round", v.line(2), 2);
        due(19, "RIM FIRST deals the rim round first", of("c4,1;pe9;pe1;").table(1, 1), 8 * 5 + 18);
    }

    private static void seeming() {
        AuntsPuzzle x = new AuntsPuzzle();
        due(21, "144 pairs, less 14 in one piece, less 12 edges", x.seems(), 118);
        x.pocket(4);
        // Without 4: 10 nubs and 10 holes, 10 pairs in one piece, 8 edges.
        due(21, "without 4", x.seems(), 100 - 10 - 8);
        due(21, "all classes apart", of("z22;e0r+1;e0d+2;e1d+3;e2r+4;").seems(), 0);
        due(21, "two alike: each nub with the other's hole", of("z22;e0r+1;e0d+2;e1d+3;e2r+1;").seems(), 2);
        // Around: 0's nub to the right and 1's down are of class 1; 0 with 1 has the edge, 0 with 3 seems; 1's own do not count.
        due(21, "sides of one piece are no pair", of("z22;e0r+1;e0d+2;e1d+1;e2r+4;").seems(), 1);
    }

    private static void wrongAndOver() {
        AuntsPuzzle x = of("z22;pf1;");
        due(22, "nothing is laid", x.wrong(), 4);
        due(23, "nothing is laid", x.falseOne(), -9);
        due(24, "all fit somewhere", x.over(), -9);
        x.tryIt(0, 3, 0, 3);
        due(22, "one is right", x.wrong(), 3);
        due(23, "none is false", x.falseOne(), -9);
        x.tryIt(0, 0, 1, 1);
        due(22, "a nub to its hole, turned", x.wrong(), 3);
        due(23, "it lies", x.falseOne(), 1);
        // Free are 0, which wants a hole to the right, and 2, which wants a nub to the right: 1 has nub and hole the other way.
        due(24, "1 fits no more, 2 does", x.over(), 1);
        AuntsPuzzle y = of("z22;e0r+1;e0d+2;e1d+3;e2r+4;pf1;");
        y.tryIt(0, 0, 1, 1);
        due(24, "all still fit cell 2", y.over(), -9);
        y.tryIt(0, 1, 2, 2);
        // Cell 0 wants -2 and -3, cell 3 wants -1 and 1; 2 has -2 and 4, 3 has -3 and -4.
        due(24, "2 and 3 fit nowhere", y.over(), 2);
        y.pocket(2);
        due(24, "the next", y.over(), 3);
        y.pocket(3);
        due(24, "all are away", y.over(), -9);
        due(22, "wrong()", y.wrong(), 4);
        due(23, "the first", y.falseOne(), 1);
        AuntsPuzzle z = of("pf1;");
        z.tryIt(0, 4, 2, 4);
        due(23, "its own, turned", z.falseOne(), 4);
        z.tryIt(0, 2, 3, 0);
        due(23, "cell 0 ahead of it", z.falseOne(), 0);
        due(22, "its own, turned", z.wrong(), 9);
    }

    private static void lacking() {
        AuntsPuzzle x = of("z22;e0r+5;e0d-7;e1d+9;e2r+1;pf1;");
        for (int kind = 1; kind <= 9; kind++) {
            due(25, "BALANCE", x.balance(kind), 0);
        }
        due(26, "nothing lacks", x.lacks(), 0);
        due(27, "nothing lacks", x.which(), 0);
        x.tryIt(0, 1, 0, 1);
        x.pocket(0);
        due(25, "a nub of 5 lacks", x.balance(5), -1);
        due(25, "a hole of 7 lacks", x.balance(7), 1);
        due(25, "9 is whole", x.balance(9), 0);
        due(26, "it lacks", x.lacks(), 1);
        due(27, "it is 0", x.which(), 1);
        x.pocket(3);
        due(27, "no one alone", x.which(), 0);
        due(26, "but it lacks", x.lacks(), 1);
        due(25, "balance(0)", x.balance(0), 1000000001);
        due(25, "balance(10)", x.balance(10), 1000000001);
        due(25, "balance(-1)", x.balance(-1), 1000000001);
        due(25, "count(11)", x.count(11), 3);
        AuntsPuzzle y = of("pf1;");
        y.tryIt(0, 2, 0, 2);
        y.pocket(4);
        due(26, "an inner one of two nubs and two holes", y.lacks(), 0);
        due(27, "is not missed", y.which(), 0);
        y.pocket(6);
        due(25, "a nub and a hole", y.balance(1), 0);
        due(26, "flat sides lack", y.lacks(), 1);
        due(27, "6, or 2 though it is laid", y.which(), 64 + 4);
        y.find(6);
        y.pocket(1);
        due(25, "two nubs and a hole", y.balance(1), -1);
        due(27, "1 or 3", y.which(), 2 + 8);
        AuntsPuzzle z = of("e4r+9;e3r-9;");
        z.pocket(4);
        due(25, "two nubs of 9, and no flat side", z.balance(9), -2);
        due(26, "lack all the same", z.lacks(), 1);
        due(27, "it is 4", z.which(), 16);
    }

    private static void shares() {
        AuntsPuzzle x = of("pf6;ps2;pf9;");
        due(28, "0 by", x.mine(0, 0), 0);
        due(28, "by 1", x.mine(0, 1), 1);
        x.tryIt(0, 0, 0, 0);
        due(28, "all of it: 1", x.mine(0, 0), 1);
        due(28, "by 1", x.mine(0, 1), 1);
        due(28, "none of it: 0", x.mine(1, 0), 0);
        due(28, "by 1", x.mine(1, 1), 1);
        x.tryIt(1, 4, 0, 1);
        x.lift(0);
        due(28, "6 of 10: 3", x.mine(0, 0), 3);
        due(28, "by 5", x.mine(0, 1), 5);
        due(28, "4 of 10: 2", x.mine(1, 0), 2);
        due(28, "by 5", x.mine(1, 1), 5);
        due(28, "mine(3, 2)", x.mine(3, 2), -1);
        due(28, "mine(-1, 0)", x.mine(-1, 0), -1);
        due(28, "mine(0, 2)", x.mine(0, 2), -2);
        due(28, "mine(0, -1)", x.mine(0, -1), -2);
    }

    private static void hardestAndKeeper() {
        AuntsPuzzle x = of("z34;e0r-4;e5d-9;");
        x.pocket(0);
        int before = x.seems();
        due(29, "one class for all seems most", x.hardest(), 1);
        due(29, "edges are as they were", x.side(0, 0, 1), -4);
        due(29, "what is lost stays so", x.count(4), 1);
        due(29, "seems is as it was", x.seems(), before);
        int[][] games = {{0, 1, 0}, {1, 1, 1}, {2, 1, 0}, {3, 3, 1}, {4, 3, 0}, {5, 3, 1}, {999, 99, 1}, {900, 99, 0}, {999, 1, 1},
            {-1, 100, -4}, {1000, 0, -4}, {0, 0, -4}, {-1, 1, -4}, {1000, 1, -6}, {1, 100, -6},
            {Integer.MAX_VALUE, Integer.MAX_VALUE, -6}, {Integer.MIN_VALUE, Integer.MIN_VALUE, -4}};
        for (int[] game : games) {
            due(30, "keeper(" + game[0] + ", " + game[1] + ")", x.keeper(game[0], game[1]), game[2]);
        }
    }

    private static int drawn(int[] z, int below) {
        z[0] = (int) (z[0] * 1664525L + 1013904223L);
        return (int) ((z[0] & 0x7fffffffL) >> 8) % below;
    }

    /** The same draws, tried for real on a second object, must lay as many. */
    private static void evenings() {
        for (int seed = -40; seed < 40; seed++) {
            AuntsPuzzle x = of("z23;pf1;pc2;pe3;");
            x.tryIt(0, 2, 0, 2);
            x.pocket(3);
            int[] z = {seed * 77777777};
            int n = 1 + Math.floorMod(seed * 37, 200);
            int told = x.evening(n, z[0]);
            due(31, "in mind only", x.count(3) * 10 + x.count(6), 11);
            for (int i = 0; i < n; i++) {
                int person = drawn(z, 3);
                int piece = drawn(z, 6);
                int turn = drawn(z, 4);
                x.tryIt(person, piece, turn, drawn(z, 6));
            }
            due(31, "evening(" + n + ", of " + seed + ")", told, x.count(3) - 1);
        }
        AuntsPuzzle x = new AuntsPuzzle();
        due(31, "evening(0, 1)", x.evening(0, 1), -4);
        due(31, "evening(201, 1)", x.evening(201, 1), -6);
        due(31, "evening(200, 1)", x.evening(200, 1), -3);
        read(x, "pf1;");
        due(31, "evening(201, 1)", x.evening(201, 1), -6);
        due(31, "evening(200, 1) is allowed", x.evening(200, 1) > 0 ? 1 : 0, 1);
    }

    private static void tell(AuntsPuzzle x, int... row) {
        for (int i = 0; i < row.length; i++) {
            due(32, "row(" + row[i] + ")", x.row(row[i]), i + 1);
        }
    }

    private static void rows() {
        AuntsPuzzle x = of("z22;pf1;");
        due(32, "row(-1)", x.row(-1), -4);
        due(32, "row(100)", x.row(100), -6);
        due(33, "an empty one ends at once", x.judge(), 0);
        tell(x, 99, 99, 99, 99);
        due(33, "nothing lies", x.judge(), -9);
        due(33, "the row has none then", x.count(7), 0);
        x.tryIt(0, 0, 2, 3);
        tell(x, 99, 99, 99, 0);
        due(33, "in whatever turn", x.judge(), -9);
        tell(x, 99, 99, 99, 3);
        due(33, "another lies", x.judge(), 3);
        tell(x, 99, 1, 99, 3);
        due(33, "nothing lies there", x.judge(), 1);
        tell(x, 99, 99, 99, 99);
        due(33, "something lies there", x.judge(), 3);
        tell(x, 99, 99, 99);
        due(33, "too short", x.judge(), 3);
        tell(x, 99, 99, 99, 0, 99);
        due(33, "too long", x.judge(), 4);
        tell(x, 0, 99, 99, 0, 99);
        due(33, "false ahead of too long", x.judge(), 0);
        tell(x, 98);
        due(33, "no such piece", x.judge(), 0);
        tell(x, 0, 1, 2, 3, 4, 5, 6, 7, 8, 9, 10, 11, 12, 13, 14, 15);
        due(32, "a seventeenth", x.row(0), -6);
        due(32, "below the least ahead of no room", x.row(-1), -4);
        due(32, "count(7)", x.count(7), 16);
        due(33, "judge()", x.judge(), 0);
        due(32, "count(16)", x.count(16), 2);
    }

    private static void images() {
        AuntsPuzzle x = of("z23;e0r-4;c3,5;pf2;pc3;");
        due(35, "there is none", x.on(), -3);
        x.tryIt(0, 0, 0, 0);
        x.tryIt(1, 5, 0, 5);
        x.pocket(4);
        due(34, "image()", x.image(), 2);
        x.lift(0);
        x.find(4);
        x.tryIt(1, 0, 0, 0);
        x.tryIt(1, 1, 0, 1);
        read(x, "z44;e0r+9;c3,1;ps1;");
        x.row(1);
        x.feed(1, 1L);
        due(35, "on()", x.on(), 2);
        due(35, "rows", x.count(0) * 10 + x.count(1), 23);
        due(35, "people", x.count(2), 2);
        due(35, "laid", x.laid(0, 0) * 10 + x.laid(5, 0), 5);
        due(35, "who", x.laid(0, 2) * 10 + x.laid(5, 2), 1);
        due(35, "free", x.laid(1, 0), -9);
        due(35, "lost", x.count(4), 1);
        due(35, "edges", x.side(0, 0, 1), -4);
        due(35, "rim", x.side(2, 0, 1), 0);
        due(35, "colours", x.colour(3), 5);
        due(35, "seconds", x.person(1, 3), 2);
        due(35, "seconds", x.person(0, 3), 2);
        due(35, "tries go on", x.count(6), 4);
        due(35, "the row stays", x.count(7), 1);
        due(35, "the tape stays", x.count(8), 1);
        due(35, "refusals stay", x.count(13), 1);
        x.lift(0);
        due(35, "the image can be used again", x.on(), 2);
        x.lift(0);
        due(34, "another image", x.image(), 1);
        x.lift(5);
        due(35, "on from that", x.on(), 1);
    }

    private static void counts() {
        AuntsPuzzle x = of("z34;pf1;pf1;");
        x.tryIt(0, 0, 0, 0);
        x.tryIt(0, 1, 1, 1);
        x.pocket(7);
        x.pocket(8);
        x.pocket(9);
        x.row(5);
        x.feed(3, 0L);
        x.colour(12);
        x.laid(0, 9);
        x.laid(1, 9);
        x.lift(11);
        x.row(-1);
        x.row(-1);
        x.feed(9, 0L);
        int[] wants = {3, 4, 2, 1, 3, 17, 2, 1, 3, -9, -9, 1, 2, 1, 2, 0, 1, -9};
        for (int what = 0; what < wants.length; what++) {
            due(36, "count(" + what + ")", x.count(what), wants[what]);
        }
        due(36, "count(-1)", x.count(-1), -9);
        due(36, "count(most)", x.count(Integer.MAX_VALUE), -9);
        due(36, "count(least)", x.count(Integer.MIN_VALUE), -9);
        due(36, "another what is no refusal", x.count(12), 2);
        due(36, "edges of 2, 2", of("z22;").count(5), 4);
    }

    public static void main(String[] args) {
        newObject();
        feeding();
        faultOfBytes();
        faultOfStatements();
        puzzles();
        sides();
        coloursAndPeople();
        laidAndFits();
        secondsOfTries();
        tries();
        liftPocketFind();
        waysToLay();
        plans();
        marksAndEnds();
        tables();
        seeming();
        wrongAndOver();
        lacking();
        shares();
        hardestAndKeeper();
        evenings();
        rows();
        images();
        counts();
        System.out.println(asked + " answers looked at, " + wrong + " not as due");
        if (wrong != 0) {
            System.exit(1);
        }
    }
}
