import java.util.ArrayList;
import java.util.List;

/** Every refusal of every promise, each in its order among the others, and that it changes nothing but how many there were. */
public final class RefusalTest extends Sentences {
    private static final int NOBODY = -1;
    private static final int OTHER = -2;
    private static final int STATE = -3;
    private static final int BELOW = -4;
    private static final int ROOM = -6;

    private interface Call {
        int on(AuntsPuzzle x);
    }

    private interface Maker {
        AuntsPuzzle make();
    }

    private static int looked = 0;

    /** Nobody, nothing laid, nothing on the tape, no image. */
    private static AuntsPuzzle fresh() {
        return new AuntsPuzzle();
    }

    /** Three by four with two people; 0 and 11 are laid, 5 is lost; a row, a tape and an image that were begun. */
    private static AuntsPuzzle begun() {
        AuntsPuzzle x = of("z34;e0r-2;e5d+3;e10r-4;c0,3;c4,5;c11,3;pl7;pe4;");
        lay(x, 0, 11);
        x.tryIt(1, 4, 0, 1);
        lose(x, 5);
        x.image();
        lay(x, 1);
        x.lift(0);
        lay(x, 0);
        x.row(0);
        x.row(1);
        x.row(99);
        feedText(x, "c3,7;ps9;e0d+");
        return x;
    }

    /** All that there can be: 16 cells laid, six people, a full row and a full tape. */
    private static AuntsPuzzle full() {
        AuntsPuzzle x = of("z44;c15,3;pf1;pc2;pe3;pl4;ps5;pf9;");
        layAll(x);
        x.image();
        for (int cell = 0; cell < 16; cell++) {
            x.row(cell);
        }
        feedText(x, "c0,9;".repeat(12) + "z22;");
        return x;
    }

    private static void look(AuntsPuzzle x, List<Integer> seen) {
        int cells = cellsOf(x);
        int people = x.count(2);
        for (int what = 0; what <= 8; what++) {
            seen.add(x.count(what));
        }
        for (int cell = 0; cell < cells; cell++) {
            seen.add(x.colour(cell));
            seen.add(x.side(cell, 0, 1));
            seen.add(x.side(cell, 0, 2));
            seen.add(x.laid(cell, 0));
            seen.add(x.laid(cell, 1));
            seen.add(x.laid(cell, 2));
        }
        for (int person = 0; person < people; person++) {
            for (int what = 0; what < 4; what++) {
                seen.add(x.person(person, what));
            }
        }
    }

    private static void askMore(AuntsPuzzle x, List<Integer> seen) {
        int people = x.count(2);
        for (int person = 0; person < people; person++) {
            seen.add(x.mine(person, 0));
            seen.add(x.mine(person, 1));
            seen.add(x.done(4, person));
            seen.add(x.half(1, person));
            seen.add(x.bestRule(person));
            seen.add(x.table(2, person + 1));
            seen.add(x.evening(200, person));
        }
        seen.add(x.line(0));
        seen.add(x.ways(0));
        seen.add(x.ways(1));
        seen.add(x.first(3, 0));
        seen.add(x.seems());
        seen.add(x.wrong());
        seen.add(x.falseOne());
        seen.add(x.over());
        seen.add(x.balance(1));
        seen.add(x.lacks());
        seen.add(x.which());
        seen.add(x.hardest());
    }

    /** What the row, the tape and the image hold is seen only by using them: the row goes on as the board is, the tape to a statement. */
    private static void useUp(AuntsPuzzle x, List<Integer> seen) {
        for (int cell = x.count(7); cell < cellsOf(x); cell++) {
            int lying = x.laid(cell, 0);
            seen.add(x.row(lying == -9 ? 99 : lying));
        }
        seen.add(x.judge());
        if (x.count(8) > 0 && x.count(8) < 64) {
            seen.add(x.feed(2, ';' * 256 + '5'));
        }
        seen.add(x.puzzle());
        look(x, seen);
        seen.add(x.on());
        look(x, seen);
    }

    /** Two objects alike, one of which has a call refused: what they answer from then on must be the same. */
    private static void refused(String call, Maker maker, Call made, int number) {
        AuntsPuzzle x = maker.make();
        AuntsPuzzle twin = maker.make();
        boolean isFar = call.startsWith("side") || call.startsWith("balance");
        due(call, made.on(x), isFar ? FAR - number : number);
        for (int what = 11; what <= 16; what++) {
            due("count(" + what + ") behind " + call, x.count(what), twin.count(what) + (what == 10 - number ? 1 : 0));
        }
        List<Integer> seen = new ArrayList<>();
        List<Integer> due = new ArrayList<>();
        lookAtAll(x, seen);
        lookAtAll(twin, due);
        due("answers behind " + call, seen.size(), due.size());
        for (int i = 0; i < due.size() && i < seen.size(); i++) {
            due("answer " + i + " behind " + call, seen.get(i), due.get(i));
        }
        looked++;
    }

    private static void lookAtAll(AuntsPuzzle x, List<Integer> seen) {
        look(x, seen);
        askMore(x, seen);
        useUp(x, seen);
    }

    private static AuntsPuzzle backFrom(AuntsPuzzle x) {
        x.on();
        return x;
    }

    private static void feeding() {
        says("`int feed(int n, long bytes)`");
        refused("feed(0)", RefusalTest::begun, x -> x.feed(0, -1L), BELOW);
        refused("feed(-1)", RefusalTest::begun, x -> x.feed(-1, -1L), BELOW);
        refused("feed(least)", RefusalTest::fresh, x -> x.feed(LEAST, -1L), BELOW);
        refused("feed(9)", RefusalTest::begun, x -> x.feed(9, -1L), ROOM);
        refused("feed(most)", RefusalTest::begun, x -> x.feed(MOST, -1L), ROOM);
        refused("feed(1) of a full tape", RefusalTest::full, x -> x.feed(1, -1L), ROOM);
        refused("feed(9) of a full tape", RefusalTest::full, x -> x.feed(9, -1L), ROOM);
        refused("feed(0) of a full tape", RefusalTest::full, x -> x.feed(0, -1L), BELOW);
    }

    private static void sides() {
        says("What a PIECE TURNED so has at a side. Refused as told: -1; -2 (TURN; side).");
        refused("side(-1, 0, 0)", RefusalTest::begun, x -> x.side(-1, 0, 0), NOBODY);
        refused("side(12, 0, 0)", RefusalTest::begun, x -> x.side(12, 0, 0), NOBODY);
        refused("side(9, 0, 0)", RefusalTest::fresh, x -> x.side(9, 0, 0), NOBODY);
        refused("side(16, 4, 4)", RefusalTest::full, x -> x.side(16, 4, 4), NOBODY);
        refused("side(12, -1, 0)", RefusalTest::begun, x -> x.side(12, -1, 0), NOBODY);
        refused("side(12, 0, 4)", RefusalTest::begun, x -> x.side(12, 0, 4), NOBODY);
        refused("side(0, -1, 0)", RefusalTest::begun, x -> x.side(0, -1, 0), OTHER);
        refused("side(0, 4, 0)", RefusalTest::begun, x -> x.side(0, 4, 0), OTHER);
        refused("side(0, 0, -1)", RefusalTest::begun, x -> x.side(0, 0, -1), OTHER);
        refused("side(0, 0, 4)", RefusalTest::begun, x -> x.side(0, 0, 4), OTHER);
        refused("side(11, most, least)", RefusalTest::begun, x -> x.side(11, MOST, LEAST), OTHER);
    }

    private static void coloursAndPeople() {
        says("-1 NOBODY: no such CELL, PIECE, PERSON.");
        for (int cell : new int[] {-1, 12, 16, LEAST, MOST}) {
            refused("colour(" + cell + ")", RefusalTest::begun, x -> x.colour(cell), NOBODY);
        }
        refused("colour(16)", RefusalTest::full, x -> x.colour(16), NOBODY);
        for (int person : new int[] {-1, 2, 6, LEAST, MOST}) {
            refused("person(" + person + ", 0)", RefusalTest::begun, x -> x.person(person, 0), NOBODY);
            refused("person(" + person + ", 4)", RefusalTest::begun, x -> x.person(person, 4), NOBODY);
        }
        refused("person(0, 0)", RefusalTest::fresh, x -> x.person(0, 0), NOBODY);
        refused("person(6, 0)", RefusalTest::full, x -> x.person(6, 0), NOBODY);
        refused("person(1, -1)", RefusalTest::begun, x -> x.person(1, -1), OTHER);
        refused("person(1, 4)", RefusalTest::begun, x -> x.person(1, 4), OTHER);
    }

    private static void laid() {
        says("`int laid(int cell, int what)`");
        refused("laid(-1, 0)", RefusalTest::begun, x -> x.laid(-1, 0), NOBODY);
        refused("laid(12, 0)", RefusalTest::begun, x -> x.laid(12, 0), NOBODY);
        refused("laid(12, 3)", RefusalTest::begun, x -> x.laid(12, 3), NOBODY);
        refused("laid(0, 3)", RefusalTest::begun, x -> x.laid(0, 3), OTHER);
        refused("laid(2, 3), nothing there", RefusalTest::begun, x -> x.laid(2, 3), OTHER);
        refused("laid(0, -1)", RefusalTest::begun, x -> x.laid(0, -1), OTHER);
    }

    private static void fits() {
        says("`int fits(int piece, int turn, int cell)`");
        refused("fits(-1, 0, 0)", RefusalTest::begun, x -> x.fits(-1, 0, 0), NOBODY);
        refused("fits(12, 0, 0)", RefusalTest::begun, x -> x.fits(12, 0, 0), NOBODY);
        refused("fits(0, 0, -1)", RefusalTest::begun, x -> x.fits(0, 0, -1), NOBODY);
        refused("fits(0, 0, 12)", RefusalTest::begun, x -> x.fits(0, 0, 12), NOBODY);
        refused("fits(12, 4, 0)", RefusalTest::begun, x -> x.fits(12, 4, 0), NOBODY);
        refused("fits(0, 4, 12)", RefusalTest::begun, x -> x.fits(0, 4, 12), NOBODY);
        refused("fits(0, 4, 0)", RefusalTest::begun, x -> x.fits(0, 4, 0), OTHER);
        refused("fits(0, -1, 0)", RefusalTest::begun, x -> x.fits(0, -1, 0), OTHER);
    }

    private static void secondsOfTries() {
        says("`int seconds(int person, int piece, int turn, int cell)`");
        refused("seconds(-1, 4, 0, 4)", RefusalTest::begun, x -> x.seconds(-1, 4, 0, 4), NOBODY);
        refused("seconds(2, 4, 0, 4)", RefusalTest::begun, x -> x.seconds(2, 4, 0, 4), NOBODY);
        refused("seconds(0, -1, 0, 4)", RefusalTest::begun, x -> x.seconds(0, -1, 0, 4), NOBODY);
        refused("seconds(0, 12, 0, 4)", RefusalTest::begun, x -> x.seconds(0, 12, 0, 4), NOBODY);
        refused("seconds(0, 4, 0, -1)", RefusalTest::begun, x -> x.seconds(0, 4, 0, -1), NOBODY);
        refused("seconds(0, 4, 0, 12)", RefusalTest::begun, x -> x.seconds(0, 4, 0, 12), NOBODY);
        refused("seconds(2, 4, 4, 0)", RefusalTest::begun, x -> x.seconds(2, 4, 4, 0), NOBODY);
        refused("seconds(0, 12, 4, 0)", RefusalTest::begun, x -> x.seconds(0, 12, 4, 0), NOBODY);
        refused("seconds(0, 4, 4, 12)", RefusalTest::begun, x -> x.seconds(0, 4, 4, 12), NOBODY);
        refused("seconds(0, 0, 0, 0), nobody", RefusalTest::fresh, x -> x.seconds(0, 0, 0, 0), NOBODY);
        refused("seconds(0, 4, 4, 0), laid", RefusalTest::begun, x -> x.seconds(0, 4, 4, 0), OTHER);
        refused("seconds(0, 4, -1, 4)", RefusalTest::begun, x -> x.seconds(0, 4, -1, 4), OTHER);
        refused("seconds(0, 4, 0, 0), laid", RefusalTest::begun, x -> x.seconds(0, 4, 0, 0), STATE);
        refused("seconds(5, 15, 3, 15), laid", RefusalTest::full, x -> x.seconds(5, 15, 3, 15), STATE);
    }

    private static void tries() {
        says("`int tryIt(int person, int piece, int turn, int cell)`");
        refused("tryIt(-1, 4, 0, 4)", RefusalTest::begun, x -> x.tryIt(-1, 4, 0, 4), NOBODY);
        refused("tryIt(2, 4, 0, 4)", RefusalTest::begun, x -> x.tryIt(2, 4, 0, 4), NOBODY);
        refused("tryIt(0, -1, 0, 4)", RefusalTest::begun, x -> x.tryIt(0, -1, 0, 4), NOBODY);
        refused("tryIt(0, 12, 0, 4)", RefusalTest::begun, x -> x.tryIt(0, 12, 0, 4), NOBODY);
        refused("tryIt(0, 4, 0, -1)", RefusalTest::begun, x -> x.tryIt(0, 4, 0, -1), NOBODY);
        refused("tryIt(0, 4, 0, 12)", RefusalTest::begun, x -> x.tryIt(0, 4, 0, 12), NOBODY);
        refused("tryIt(2, 5, 4, 0)", RefusalTest::begun, x -> x.tryIt(2, 5, 4, 0), NOBODY);
        refused("tryIt(0, 12, 4, 0)", RefusalTest::begun, x -> x.tryIt(0, 12, 4, 0), NOBODY);
        refused("tryIt(0, 5, 4, 12)", RefusalTest::begun, x -> x.tryIt(0, 5, 4, 12), NOBODY);
        refused("tryIt(0, 0, 0, 0), nobody", RefusalTest::fresh, x -> x.tryIt(0, 0, 0, 0), NOBODY);
        refused("tryIt(0, 4, 4, 4)", RefusalTest::begun, x -> x.tryIt(0, 4, 4, 4), OTHER);
        refused("tryIt(0, 4, -1, 4)", RefusalTest::begun, x -> x.tryIt(0, 4, -1, 4), OTHER);
        refused("tryIt(0, 5, 4, 0), laid and lost", RefusalTest::begun, x -> x.tryIt(0, 5, 4, 0), OTHER);
        refused("tryIt(0, 4, 0, 0), the cell is laid", RefusalTest::begun, x -> x.tryIt(0, 4, 0, 0), STATE);
        refused("tryIt(0, 0, 3, 8), the piece is laid", RefusalTest::begun, x -> x.tryIt(0, 0, 3, 8), STATE);
        refused("tryIt(0, 5, 0, 5), it is lost", RefusalTest::begun, x -> x.tryIt(0, 5, 0, 5), STATE);
        refused("tryIt(0, 5, 0, 0), laid and lost", RefusalTest::begun, x -> x.tryIt(0, 5, 0, 0), STATE);
        refused("tryIt(5, 15, 0, 15), all is laid", RefusalTest::full, x -> x.tryIt(5, 15, 0, 15), STATE);
    }

    private static void liftPocketFind() {
        says("-3 STATE: it is not as it must be.");
        for (int number : new int[] {-1, 12, LEAST, MOST}) {
            refused("lift(" + number + ")", RefusalTest::begun, x -> x.lift(number), NOBODY);
            refused("pocket(" + number + ")", RefusalTest::begun, x -> x.pocket(number), NOBODY);
            refused("find(" + number + ")", RefusalTest::begun, x -> x.find(number), NOBODY);
        }
        refused("lift(16)", RefusalTest::full, x -> x.lift(16), NOBODY);
        refused("lift(5), nothing is", RefusalTest::begun, x -> x.lift(5), STATE);
        refused("lift(8), nothing is", RefusalTest::fresh, x -> x.lift(8), STATE);
        refused("pocket(0), laid", RefusalTest::begun, x -> x.pocket(0), STATE);
        refused("pocket(15), laid", RefusalTest::full, x -> x.pocket(15), STATE);
        refused("pocket(5), lost", RefusalTest::begun, x -> x.pocket(5), STATE);
        refused("find(0), laid", RefusalTest::begun, x -> x.find(0), STATE);
        refused("find(4), neither", RefusalTest::begun, x -> x.find(4), STATE);
        refused("on(), there is none", RefusalTest::fresh, x -> x.on(), STATE);
    }

    private static void waysAndRules() {
        says("-2 OTHER: what, RULE.");
        for (int what : new int[] {-1, 2, LEAST, MOST}) {
            refused("ways(" + what + ")", RefusalTest::begun, x -> x.ways(what), OTHER);
            refused("first(0, " + what + ")", RefusalTest::begun, x -> x.first(0, what), OTHER);
            refused("first(12, " + what + ")", RefusalTest::begun, x -> x.first(12, what), NOBODY);
            refused("mine(0, " + what + ")", RefusalTest::begun, x -> x.mine(0, what), OTHER);
            refused("mine(2, " + what + ")", RefusalTest::begun, x -> x.mine(2, what), NOBODY);
        }
        refused("first(-1, 0)", RefusalTest::begun, x -> x.first(-1, 0), NOBODY);
        refused("first(12, 0)", RefusalTest::begun, x -> x.first(12, 0), NOBODY);
        refused("mine(-1, 0)", RefusalTest::begun, x -> x.mine(-1, 0), NOBODY);
        refused("mine(2, 0)", RefusalTest::begun, x -> x.mine(2, 0), NOBODY);
        for (int rule : new int[] {-1, 5, LEAST, MOST}) {
            refused("table(" + rule + ", 1)", RefusalTest::begun, x -> x.table(rule, 1), OTHER);
            refused("table(" + rule + ", 0)", RefusalTest::begun, x -> x.table(rule, 0), OTHER);
            refused("table(" + rule + ", 3)", RefusalTest::begun, x -> x.table(rule, 3), OTHER);
            refused("line(" + rule + ")", RefusalTest::begun, x -> x.line(rule), OTHER);
            refused("line(" + rule + "), nobody", RefusalTest::fresh, x -> x.line(rule), OTHER);
        }
    }

    private static void done() {
        says("DONE: SECONDS. -2; -1.");
        for (int wild : new int[] {-1, 5, LEAST, MOST}) {
            refused("done(" + wild + ", 0)", RefusalTest::begun, x -> x.done(wild, 0), OTHER);
            refused("done(" + wild + ", 2)", RefusalTest::begun, x -> x.done(wild, 2), OTHER);
            refused("done(" + wild + ", 0), nobody", RefusalTest::fresh, x -> x.done(wild, 0), OTHER);
            refused("done(0, " + wild + ")", RefusalTest::begun, x -> x.done(0, wild), NOBODY);
        }
        refused("done(4, 2)", RefusalTest::begun, x -> x.done(4, 2), NOBODY);
        refused("done(4, 6)", RefusalTest::full, x -> x.done(4, 6), NOBODY);
        refused("done(0, 0), nobody", RefusalTest::fresh, x -> x.done(0, 0), NOBODY);
    }

    private static void half() {
        says("HALF. -2; -1.");
        for (int wild : new int[] {-1, 5, LEAST, MOST}) {
            refused("half(" + wild + ", 0)", RefusalTest::begun, x -> x.half(wild, 0), OTHER);
            refused("half(" + wild + ", -1)", RefusalTest::begun, x -> x.half(wild, -1), OTHER);
            refused("half(" + wild + ", 0), nobody", RefusalTest::fresh, x -> x.half(wild, 0), OTHER);
            refused("half(4, " + wild + ")", RefusalTest::begun, x -> x.half(4, wild), NOBODY);
        }
        refused("half(0, 2)", RefusalTest::begun, x -> x.half(0, 2), NOBODY);
        refused("half(0, 0), nobody", RefusalTest::fresh, x -> x.half(0, 0), NOBODY);
    }

    private static void bestRule() {
        says("BEST RULE. -1.");
        for (int person : new int[] {-1, 2, LEAST, MOST}) {
            refused("bestRule(" + person + ")", RefusalTest::begun, x -> x.bestRule(person), NOBODY);
        }
        refused("bestRule(6)", RefusalTest::full, x -> x.bestRule(6), NOBODY);
        refused("bestRule(0), nobody", RefusalTest::fresh, x -> x.bestRule(0), NOBODY);
    }

    private static void tooFew() {
        says("-4 BELOW: a number below the least.");
        refused("table(0, 0)", RefusalTest::begun, x -> x.table(0, 0), BELOW);
        refused("table(0, least)", RefusalTest::begun, x -> x.table(0, LEAST), BELOW);
        refused("table(0, 0), nobody", RefusalTest::fresh, x -> x.table(0, 0), BELOW);
        refused("keeper(-1, 1)", RefusalTest::begun, x -> x.keeper(-1, 1), BELOW);
        refused("keeper(0, 0)", RefusalTest::begun, x -> x.keeper(0, 0), BELOW);
        refused("keeper(-1, 100)", RefusalTest::begun, x -> x.keeper(-1, 100), BELOW);
        refused("keeper(1000, 0)", RefusalTest::begun, x -> x.keeper(1000, 0), BELOW);
        refused("evening(0, 1)", RefusalTest::begun, x -> x.evening(0, 1), BELOW);
        refused("evening(0, 1), nobody", RefusalTest::fresh, x -> x.evening(0, 1), BELOW);
        refused("row(-1)", RefusalTest::begun, x -> x.row(-1), BELOW);
        refused("row(-1), full", RefusalTest::full, x -> x.row(-1), BELOW);
    }

    private static void tooMany() {
        says("-6 ROOM: a number above the greatest, no room.");
        refused("table(0, 3)", RefusalTest::begun, x -> x.table(0, 3), ROOM);
        refused("table(0, most)", RefusalTest::begun, x -> x.table(0, MOST), ROOM);
        refused("table(0, 1), nobody", RefusalTest::fresh, x -> x.table(0, 1), ROOM);
        refused("table(4, 7)", RefusalTest::full, x -> x.table(4, 7), ROOM);
        refused("keeper(1000, 1)", RefusalTest::begun, x -> x.keeper(1000, 1), ROOM);
        refused("keeper(1, 100)", RefusalTest::begun, x -> x.keeper(1, 100), ROOM);
        refused("evening(201, 1)", RefusalTest::begun, x -> x.evening(201, 1), ROOM);
        refused("evening(201, 1), nobody", RefusalTest::fresh, x -> x.evening(201, 1), ROOM);
        refused("evening(200, 1), nobody", RefusalTest::fresh, x -> x.evening(200, 1), STATE);
        refused("evening(1, 1), nobody", RefusalTest::fresh, x -> x.evening(1, 1), STATE);
        refused("row(100)", RefusalTest::begun, x -> x.row(100), ROOM);
        refused("row(100), full", RefusalTest::full, x -> x.row(100), ROOM);
        refused("row(0), full", RefusalTest::full, x -> x.row(0), ROOM);
    }

    private static void farOnes() {
        says("Of side(), balance() REFUSALS are 1000000000 less them.");
        refused("balance(0)", RefusalTest::begun, x -> x.balance(0), NOBODY);
        refused("balance(10)", RefusalTest::begun, x -> x.balance(10), NOBODY);
        refused("balance(least)", RefusalTest::fresh, x -> x.balance(LEAST), NOBODY);
        refused("balance(most)", RefusalTest::full, x -> x.balance(MOST), NOBODY);
        due("side() by its number", begun().side(12, 0, 0), 1000000001);
        due("side() by its number", begun().side(0, 4, 0), 1000000002);
        due("balance() by its number", begun().balance(0), 1000000001);
    }

    private static void onFromAnImage() {
        says("(the call answers the number, the first that fits in the order in which it tells them; nothing changes but how many there were)");
        Maker back = () -> backFrom(begun());
        refused("tryIt(0, 4, 0, 0), on from the image", back, x -> x.tryIt(0, 4, 0, 0), STATE);
        refused("pocket(5), on from the image", back, x -> x.pocket(5), STATE);
        refused("lift(1), on from the image", back, x -> x.lift(1), STATE);
        refused("find(4), on from the image", back, x -> x.find(4), STATE);
    }

    private static void neverRefused() {
        says("11 .. 16 REFUSALS -1 .. -6.");
        for (Maker maker : new Maker[] {RefusalTest::fresh, RefusalTest::begun, RefusalTest::full}) {
            AuntsPuzzle x = maker.make();
            for (int what = -3; what < 30; what++) {
                x.count(what);
            }
            x.seems();
            x.wrong();
            x.falseOne();
            x.over();
            x.lacks();
            x.which();
            x.hardest();
            x.judge();
            x.judge();
            x.puzzle();
            x.puzzle();
            x.image();
            x.on();
            for (int what = 11; what <= 16; what++) {
                due("none was refused", x.count(what), 0);
            }
        }
        AuntsPuzzle x = begun();
        for (int i = 1; i <= 50; i++) {
            x.colour(-1);
            x.ways(-1);
            x.lift(5);
            x.row(-1);
            x.row(100);
            int[] wants = {i, i, i, i, 0, i};
            for (int what = 11; what <= 16 && i % 25 == 0; what++) {
                due("each is counted apart", x.count(what), wants[what - 11]);
            }
        }
        x.on();
        due("they stay over on()", x.count(11), 50);
        due("a fault", x.puzzle(), -1013);
        due("they stay over it", x.count(12), 50);
        due("a size", read(x, "z22;"), 1);
        due("they stay over it", x.count(16), 50);
    }

    public static void main(String[] args) {
        feeding();
        sides();
        coloursAndPeople();
        laid();
        fits();
        secondsOfTries();
        tries();
        liftPocketFind();
        waysAndRules();
        done();
        half();
        bestRule();
        tooFew();
        tooMany();
        farOnes();
        onFromAnImage();
        neverRefused();
        System.out.println(looked + " refused calls");
        end();
    }
}
