/** A puzzle of cells with nubs and holes, the people who lay it, and what can be asked of both. */
public final class AuntsPuzzle {
    private static final int NOBODY = -1;
    private static final int OTHER = -2;
    private static final int STATE = -3;
    private static final int BELOW = -4;
    private static final int ROOM = -6;
    private static final int NOTHING = -9;
    private static final int ALLOWED = 0;
    /** side() and balance() answer small numbers of either sign, so their refusals are told far off. */
    private static final int FAR = 1000000000;

    private static final int MOST_CELLS = 16;
    private static final int MOST_PEOPLE = 6;
    private static final int MOST_BYTES = 64;
    private static final int MOST_CLASS = 9;
    private static final int MOST_TRIED = 20000;
    private static final int MOST_DRAWN = 200;
    private static final int SIDES = 4;
    private static final int RIGHT = 1;
    private static final int DOWN = 2;

    private static final int FITTING = 1;
    private static final int SEEMING = 2;
    private static final int FAILED = 3;
    private static final int FORMED = 4;

    private static final int RULES = 5;
    private static final int RIM_FIRST = 1;
    private static final int COLOURS = 2;
    private static final int FORMS = 3;
    private static final int MARKS = 4;

    private final Game now = new Game();
    private final Game draft = new Game();
    private final Game kept = new Game();
    private final Board inMind = new Board();
    private final Tape tape = new Tape();
    private final Told told = new Told();
    private final Search search = new Search();
    private final Work work = new Work();
    private final Pile pile = new Pile();
    private final Evening night = new Evening();
    private final int[] refusals = new int[7];
    private boolean hasImage;
    private int tries;

    public AuntsPuzzle() {
        hasImage = false;
        tries = 0;
    }

    public int feed(int n, long bytes) {
        if (n < 1) {
            return refuse(BELOW);
        }
        if (n > 8 || tape.length + n > MOST_BYTES) {
            return refuse(ROOM);
        }
        tape.take(n, bytes);
        return tape.length;
    }

    public int puzzle() {
        draft.copyFrom(now);
        int answer = tape.readInto(draft);
        tape.length = 0;
        if (answer > 0) {
            now.copyFrom(draft);
            search.isKnown = false;
        }
        return answer;
    }

    public int side(int piece, int turn, int side) {
        if (!isCell(piece)) {
            return FAR - refuse(NOBODY);
        }
        if (!isTurn(turn) || !isTurn(side)) {
            return FAR - refuse(OTHER);
        }
        return now.cut.sideOf(piece, turn, side);
    }

    public int colour(int cell) {
        return isCell(cell) ? now.cut.colours[cell] : refuse(NOBODY);
    }

    public int person(int person, int what) {
        if (!isPerson(person)) {
            return refuse(NOBODY);
        }
        switch (what) {
            case 0:
                return now.people.kinds[person];
            case 1:
                return now.people.paces[person];
            case 2:
                return now.board.laidBy(person);
            case 3:
                return now.people.spent[person];
            default:
                return refuse(OTHER);
        }
    }

    public int laid(int cell, int what) {
        if (!isCell(cell)) {
            return refuse(NOBODY);
        }
        if (what < 0 || what > 2) {
            return refuse(OTHER);
        }
        if (!now.board.isFilled(cell)) {
            return NOTHING;
        }
        if (what == 0) {
            return now.board.pieces[cell];
        }
        return what == 1 ? now.board.turns[cell] : now.board.layers[cell];
    }

    public int fits(int piece, int turn, int cell) {
        if (!isCell(piece) || !isCell(cell)) {
            return refuse(NOBODY);
        }
        if (!isTurn(turn)) {
            return refuse(OTHER);
        }
        inMind.copyFrom(now.board);
        inMind.takeAway(piece);
        return now.cut.isFit(inMind, piece, turn, cell) ? 1 : 0;
    }

    public int seconds(int person, int piece, int turn, int cell) {
        int refusal = refusalOfTry(person, piece, turn, cell);
        if (refusal == ALLOWED && now.board.isFilled(cell)) {
            refusal = STATE;
        }
        if (refusal != ALLOWED) {
            return refuse(refusal);
        }
        return now.costOf(person, piece, cell, now.cut.kindOf(now.board, piece, turn, cell));
    }

    public int tryIt(int person, int piece, int turn, int cell) {
        int refusal = refusalOfTry(person, piece, turn, cell);
        if (refusal == ALLOWED && (now.board.isFilled(cell) || now.board.isAway(piece))) {
            refusal = STATE;
        }
        if (refusal != ALLOWED) {
            return refuse(refusal);
        }
        int kind = now.cut.kindOf(now.board, piece, turn, cell);
        now.people.spent[person] += now.costOf(person, piece, cell, kind);
        tries++;
        if (kind == FITTING || kind == SEEMING) {
            now.board.put(cell, piece, turn, person);
        }
        return kind;
    }

    public int lift(int cell) {
        if (!isCell(cell)) {
            return refuse(NOBODY);
        }
        if (!now.board.isFilled(cell)) {
            return refuse(STATE);
        }
        return now.board.takeUp(cell);
    }

    public int pocket(int piece) {
        if (!isCell(piece)) {
            return refuse(NOBODY);
        }
        if (now.board.isAway(piece)) {
            return refuse(STATE);
        }
        now.board.isLost[piece] = true;
        return now.board.howManyLost();
    }

    public int find(int piece) {
        if (!isCell(piece)) {
            return refuse(NOBODY);
        }
        if (!now.board.isLost[piece]) {
            return refuse(STATE);
        }
        now.board.isLost[piece] = false;
        return now.board.howManyLost();
    }

    public int ways(int what) {
        if (what < 0 || what > 1) {
            return refuse(OTHER);
        }
        search.goThrough(now.cut);
        if (what == 1) {
            return search.tried;
        }
        return search.tried > MOST_TRIED ? NOTHING : search.found;
    }

    public int first(int cell, int what) {
        if (!isCell(cell)) {
            return refuse(NOBODY);
        }
        if (what < 0 || what > 1) {
            return refuse(OTHER);
        }
        search.goThrough(now.cut);
        if (search.found == 0) {
            return NOTHING;
        }
        return what == 0 ? search.firstFound.pieces[cell] : search.firstFound.turns[cell];
    }

    public int done(int rule, int person) {
        int refusal = refusalOfPlan(rule, person);
        return refusal == ALLOWED ? work.wholeBy(now, rule, person) : refuse(refusal);
    }

    public int half(int rule, int person) {
        int refusal = refusalOfPlan(rule, person);
        return refusal == ALLOWED ? work.halfBy(now, rule, person) : refuse(refusal);
    }

    public int bestRule(int person) {
        if (!isPerson(person)) {
            return refuse(NOBODY);
        }
        int best = 0;
        int least = work.wholeBy(now, 0, person);
        for (int rule = 1; rule < RULES; rule++) {
            int spent = work.wholeBy(now, rule, person);
            if (spent < least) {
                least = spent;
                best = rule;
            }
        }
        return best;
    }

    public int table(int rule, int n) {
        if (!isRule(rule)) {
            return refuse(OTHER);
        }
        if (n < 1) {
            return refuse(BELOW);
        }
        if (n > now.people.number) {
            return refuse(ROOM);
        }
        return work.together(now, rule, n);
    }

    public int line(int rule) {
        if (!isRule(rule)) {
            return refuse(OTHER);
        }
        if (now.people.number == 0) {
            return NOTHING;
        }
        int best = 1;
        int least = work.together(now, rule, 1);
        for (int n = 2; n <= now.people.number; n++) {
            int spent = work.together(now, rule, n);
            if (spent < least) {
                least = spent;
                best = n;
            }
        }
        return best;
    }

    public int seems() {
        return pile.seemingPairs(now.cut, now.board);
    }

    public int wrong() {
        int wrongCells = 0;
        for (int cell = 0; cell < now.cut.cells; cell++) {
            if (!now.board.isRight(cell)) {
                wrongCells++;
            }
        }
        return wrongCells;
    }

    public int falseOne() {
        for (int cell = 0; cell < now.cut.cells; cell++) {
            if (now.board.isFilled(cell) && !now.board.isRight(cell)) {
                return cell;
            }
        }
        return NOTHING;
    }

    public int over() {
        for (int piece = 0; piece < now.cut.cells; piece++) {
            if (!now.board.isAway(piece) && !now.hasPlaceFor(piece)) {
                return piece;
            }
        }
        return NOTHING;
    }

    public int balance(int kind) {
        if (kind < 1 || kind > MOST_CLASS) {
            return FAR - refuse(NOBODY);
        }
        pile.weigh(now);
        return pile.here[kind];
    }

    public int lacks() {
        pile.weigh(now);
        return pile.isShort() ? 1 : 0;
    }

    public int which() {
        pile.weigh(now);
        return pile.isShort() ? pile.suspects(now.cut) : 0;
    }

    public int mine(int person, int part) {
        if (!isPerson(person)) {
            return refuse(NOBODY);
        }
        if (part < 0 || part > 1) {
            return refuse(OTHER);
        }
        int whole = now.people.spentByAll();
        if (whole == 0) {
            return part;
        }
        int own = now.people.spent[person];
        int divisor = People.commonDivisor(own, whole);
        return part == 0 ? own / divisor : whole / divisor;
    }

    public int hardest() {
        int best = 0;
        int most = -1;
        draft.copyFrom(now);
        draft.board.clear();
        for (int k = 1; k <= 6; k++) {
            draft.cut.reclass(k);
            int pairs = pile.seemingPairs(draft.cut, draft.board);
            if (pairs > most) {
                most = pairs;
                best = k;
            }
        }
        return best;
    }

    public int keeper(int n, int k) {
        if (n < 0 || k < 1) {
            return refuse(BELOW);
        }
        if (n > 999 || k > 99) {
            return refuse(ROOM);
        }
        return n % (k + 1) == 0 ? 0 : 1;
    }

    public int evening(int n, int z) {
        if (n < 1) {
            return refuse(BELOW);
        }
        if (n > MOST_DRAWN) {
            return refuse(ROOM);
        }
        if (now.people.number == 0) {
            return refuse(STATE);
        }
        return night.spend(now, n, z);
    }

    public int row(int v) {
        if (v < 0) {
            return refuse(BELOW);
        }
        if (v > Told.NONE || told.length >= MOST_CELLS) {
            return refuse(ROOM);
        }
        return told.add(v);
    }

    public int judge() {
        int answer = told.compareWith(now);
        told.length = 0;
        return answer;
    }

    public int image() {
        kept.copyFrom(now);
        hasImage = true;
        return now.board.howManyFilled();
    }

    public int on() {
        if (!hasImage) {
            return refuse(STATE);
        }
        now.copyFrom(kept);
        search.isKnown = false;
        return now.board.howManyFilled();
    }

    public int count(int what) {
        if (what >= 11 && what <= 16) {
            return refusals[what - 10];
        }
        switch (what) {
            case 0:
                return now.cut.rows;
            case 1:
                return now.cut.columns;
            case 2:
                return now.people.number;
            case 3:
                return now.board.howManyFilled();
            case 4:
                return now.board.howManyLost();
            case 5:
                return now.cut.innerEdges();
            case 6:
                return tries;
            case 7:
                return told.length;
            case 8:
                return tape.length;
            default:
                return NOTHING;
        }
    }

    private int refuse(int number) {
        refusals[-number]++;
        return number;
    }

    /** Pieces bear the numbers of their cells, so this asks for either. */
    private boolean isCell(int number) {
        return number >= 0 && number < now.cut.cells;
    }

    private boolean isPerson(int number) {
        return number >= 0 && number < now.people.number;
    }

    private boolean isTurn(int number) {
        return number >= 0 && number < SIDES;
    }

    private boolean isRule(int number) {
        return number >= 0 && number < RULES;
    }

    private int refusalOfTry(int person, int piece, int turn, int cell) {
        if (!isPerson(person) || !isCell(piece) || !isCell(cell)) {
            return NOBODY;
        }
        return isTurn(turn) ? ALLOWED : OTHER;
    }

    private int refusalOfPlan(int rule, int person) {
        if (!isRule(rule)) {
            return OTHER;
        }
        return isPerson(person) ? ALLOWED : NOBODY;
    }

    /** The puzzle as it was cut: its edges and colours, whatever of it lies where. */
    private static final class Cut {
        private static final int RIM = -1;

        private int rows;
        private int columns;
        private int cells;
        private final int[] sides = new int[MOST_CELLS * SIDES];
        private final int[] neighbours = new int[MOST_CELLS * SIDES];
        private final boolean[] isAtRim = new boolean[MOST_CELLS];
        private final int[] colours = new int[MOST_CELLS];

        private void cutAnew(int newRows, int newColumns) {
            rows = newRows;
            columns = newColumns;
            cells = newRows * newColumns;
            for (int cell = 0; cell < cells; cell++) {
                colours[cell] = 0;
                isAtRim[cell] = false;
                for (int place = 0; place < SIDES; place++) {
                    int other = neighbourAcross(cell, place);
                    boolean hasNub = place == RIGHT || place == DOWN;
                    neighbours[cell * SIDES + place] = other;
                    isAtRim[cell] = isAtRim[cell] || other == RIM;
                    sides[cell * SIDES + place] = other == RIM ? 0 : hasNub ? 1 : -1;
                }
            }
        }

        private int neighbourAcross(int cell, int place) {
            int inRow = cell / columns;
            int inColumn = cell % columns;
            switch (place) {
                case 0:
                    return inRow > 0 ? cell - columns : RIM;
                case RIGHT:
                    return inColumn < columns - 1 ? cell + 1 : RIM;
                case DOWN:
                    return inRow < rows - 1 ? cell + columns : RIM;
                default:
                    return inColumn > 0 ? cell - 1 : RIM;
            }
        }

        private int beside(int cell, int place) {
            return neighbours[cell * SIDES + place];
        }

        private int sideOf(int piece, int turn, int place) {
            return sides[piece * SIDES + (place + SIDES - turn) % SIDES];
        }

        private void setEdge(int cell, int place, int value) {
            sides[cell * SIDES + place] = value;
            sides[beside(cell, place) * SIDES + (place + 2) % SIDES] = -value;
        }

        private int innerEdges() {
            return rows * (columns - 1) + columns * (rows - 1);
        }

        private int nubsOf(int piece) {
            int nubs = 0;
            for (int place = 0; place < SIDES; place++) {
                if (sides[piece * SIDES + place] > 0) {
                    nubs++;
                }
            }
            return nubs;
        }

        /** One number for four sides in order; two pieces so turned are alike just when theirs are. */
        private int codeOf(int piece, int turn) {
            int code = 0;
            for (int place = 0; place < SIDES; place++) {
                code = code * (2 * MOST_CLASS + 1) + sideOf(piece, turn, place) + MOST_CLASS;
            }
            return code;
        }

        private boolean suitsRim(int piece, int turn, int cell) {
            for (int place = 0; place < SIDES; place++) {
                if ((sideOf(piece, turn, place) == 0) != (beside(cell, place) == RIM)) {
                    return false;
                }
            }
            return true;
        }

        /** All that lies counts as it lies, the same piece too; who wants that left out takes it away first. */
        private boolean suitsNeighbours(Board board, int piece, int turn, int cell) {
            for (int place = 0; place < SIDES; place++) {
                int other = beside(cell, place);
                if (other == RIM || !board.isFilled(other)) {
                    continue;
                }
                int facing = sideOf(board.pieces[other], board.turns[other], (place + 2) % SIDES);
                if (sideOf(piece, turn, place) + facing != 0) {
                    return false;
                }
            }
            return true;
        }

        private boolean isFit(Board board, int piece, int turn, int cell) {
            return suitsRim(piece, turn, cell) && suitsNeighbours(board, piece, turn, cell);
        }

        private int kindOf(Board board, int piece, int turn, int cell) {
            if (!suitsRim(piece, turn, cell)) {
                return FAILED;
            }
            if (!suitsNeighbours(board, piece, turn, cell)) {
                return FORMED;
            }
            return piece == cell && turn == 0 ? FITTING : SEEMING;
        }

        private void reclass(int k) {
            int number = 0;
            for (int cell = 0; cell < cells; cell++) {
                for (int place = RIGHT; place <= DOWN; place++) {
                    if (beside(cell, place) != RIM) {
                        int edgeClass = 1 + number % k;
                        setEdge(cell, place, sideOf(cell, 0, place) > 0 ? edgeClass : -edgeClass);
                        number++;
                    }
                }
            }
        }

        private void copyFrom(Cut other) {
            rows = other.rows;
            columns = other.columns;
            cells = other.cells;
            System.arraycopy(other.sides, 0, sides, 0, sides.length);
            System.arraycopy(other.neighbours, 0, neighbours, 0, neighbours.length);
            for (int cell = 0; cell < MOST_CELLS; cell++) {
                isAtRim[cell] = other.isAtRim[cell];
                colours[cell] = other.colours[cell];
            }
        }
    }

    /** What lies in which cell, and what is in a pocket. */
    private static final class Board {
        private static final int EMPTY = -1;

        private final int[] pieces = new int[MOST_CELLS];
        private final int[] turns = new int[MOST_CELLS];
        private final int[] layers = new int[MOST_CELLS];
        private final boolean[] isPut = new boolean[MOST_CELLS];
        private final boolean[] isLost = new boolean[MOST_CELLS];

        private void clear() {
            for (int cell = 0; cell < MOST_CELLS; cell++) {
                pieces[cell] = EMPTY;
                isPut[cell] = false;
                isLost[cell] = false;
            }
        }

        private boolean isFilled(int cell) {
            return pieces[cell] != EMPTY;
        }

        private boolean isAway(int piece) {
            return isPut[piece] || isLost[piece];
        }

        private boolean isRight(int cell) {
            return pieces[cell] == cell && turns[cell] == 0;
        }

        private void put(int cell, int piece, int turn, int person) {
            pieces[cell] = piece;
            turns[cell] = turn;
            layers[cell] = person;
            isPut[piece] = true;
        }

        private int takeUp(int cell) {
            int piece = pieces[cell];
            if (piece != EMPTY) {
                isPut[piece] = false;
                pieces[cell] = EMPTY;
            }
            return piece;
        }

        private void takeAway(int piece) {
            for (int cell = 0; cell < MOST_CELLS; cell++) {
                if (pieces[cell] == piece) {
                    takeUp(cell);
                }
            }
        }

        private int laidBy(int person) {
            int number = 0;
            for (int cell = 0; cell < MOST_CELLS; cell++) {
                if (isFilled(cell) && layers[cell] == person) {
                    number++;
                }
            }
            return number;
        }

        private int howManyFilled() {
            int number = 0;
            for (int cell = 0; cell < MOST_CELLS; cell++) {
                if (isFilled(cell)) {
                    number++;
                }
            }
            return number;
        }

        private int howManyLost() {
            int number = 0;
            for (int piece = 0; piece < MOST_CELLS; piece++) {
                if (isLost[piece]) {
                    number++;
                }
            }
            return number;
        }

        private void copyFrom(Board other) {
            for (int cell = 0; cell < MOST_CELLS; cell++) {
                pieces[cell] = other.pieces[cell];
                turns[cell] = other.turns[cell];
                layers[cell] = other.layers[cell];
                isPut[cell] = other.isPut[cell];
                isLost[cell] = other.isLost[cell];
            }
        }
    }

    /** Who is at the table, of which kind and pace, and what their tries took so far. */
    private static final class People {
        /** The letters of the kinds, each at the place of its number. */
        private static final String LETTERS = "fcels";

        private int number;
        private final int[] kinds = new int[MOST_PEOPLE];
        private final int[] paces = new int[MOST_PEOPLE];
        private final int[] spent = new int[MOST_PEOPLE];

        private void add(int kind, int pace) {
            kinds[number] = kind;
            paces[number] = pace;
            spent[number] = 0;
            number++;
        }

        private int spentByAll() {
            int sum = 0;
            for (int person = 0; person < number; person++) {
                sum += spent[person];
            }
            return sum;
        }

        /** Of a number from 0 on and one from 1 on; the smaller one is at least halved every two steps. */
        private static int commonDivisor(int a, int b) {
            int rest = a;
            int divisor = b;
            for (int step = 0; step < 100 && rest != 0; step++) {
                int next = divisor % rest;
                divisor = rest;
                rest = next;
            }
            return divisor;
        }

        private void copyFrom(People other) {
            number = other.number;
            System.arraycopy(other.kinds, 0, kinds, 0, kinds.length);
            System.arraycopy(other.paces, 0, paces, 0, paces.length);
            System.arraycopy(other.spent, 0, spent, 0, spent.length);
        }
    }

    /** All that an image keeps. */
    private static final class Game {
        private static final int BLUE = 3;

        private final Cut cut = new Cut();
        private final Board board = new Board();
        private final People people = new People();

        private Game() {
            cut.cutAnew(3, 3);
            board.clear();
        }

        private int costOf(int person, int piece, int cell, int kind) {
            int cost = plainCost(person, piece, cell);
            return kind == SEEMING ? 2 * cost : cost;
        }

        private int plainCost(int person, int piece, int cell) {
            int pace = people.paces[person];
            switch (people.kinds[person]) {
                case 1:
                    return costByColour(pace, piece, cell);
                case 2:
                    return cut.isAtRim[cell] ? (pace + 1) / 2 : 2 * pace;
                case 3:
                    return cut.colours[piece] == BLUE ? 3 * pace : costByColour(pace, piece, cell);
                case 4:
                    return pace + 2;
                default:
                    return pace;
            }
        }

        private int costByColour(int pace, int piece, int cell) {
            return cut.colours[piece] == cut.colours[cell] ? (pace + 1) / 2 : pace;
        }

        private boolean hasPlaceFor(int piece) {
            for (int cell = 0; cell < cut.cells; cell++) {
                if (!board.isFilled(cell) && fitsSomehow(piece, cell)) {
                    return true;
                }
            }
            return false;
        }

        private boolean fitsSomehow(int piece, int cell) {
            for (int turn = 0; turn < SIDES; turn++) {
                if (cut.isFit(board, piece, turn, cell)) {
                    return true;
                }
            }
            return false;
        }

        private void copyFrom(Game other) {
            cut.copyFrom(other.cut);
            board.copyFrom(other.board);
            people.copyFrom(other.people);
        }
    }

    /** The bytes fed so far, and how statements are read from them. */
    private static final class Tape {
        private static final int BAD_BYTE = -1000;
        private static final int BAD_STATEMENT = -2000;
        private static final String DIGITS = "0123456789";

        private final char[] signs = new char[MOST_BYTES];
        private int length;
        private int place;
        private boolean isBroken;

        private void take(int n, long bytes) {
            for (int i = 0; i < n && length < MOST_BYTES; i++) {
                signs[length] = (char) ((bytes >>> (8 * i)) & 255);
                length++;
            }
        }

        /** How many statements came into the game, or the fault; with one the game is of no use. */
        private int readInto(Game game) {
            place = 0;
            isBroken = false;
            passStatement();
            for (int i = 0; i < MOST_BYTES && !isBroken && place < length; i++) {
                passStatement();
            }
            return isBroken ? BAD_BYTE - place : obeyAll(game);
        }

        private void passStatement() {
            int letter = place < length ? signs[place] : 0;
            passOneOf("zecp");
            switch (letter) {
                case 'z':
                    passOneOf(DIGITS);
                    passOneOf(DIGITS);
                    break;
                case 'e':
                    passCell();
                    passOneOf("rd");
                    passOneOf("+-");
                    passOneOf(DIGITS);
                    break;
                case 'c':
                    passCell();
                    passOneOf(",");
                    passOneOf(DIGITS);
                    break;
                default:
                    passOneOf(People.LETTERS);
                    passOneOf(DIGITS);
                    break;
            }
            passOneOf(";");
        }

        private void passCell() {
            passOneOf(DIGITS);
            if (isNext(DIGITS)) {
                place++;
            }
        }

        /** After a bad byte nothing is passed any more, so the place stays at it. */
        private void passOneOf(String allowed) {
            if (isNext(allowed)) {
                place++;
            } else {
                isBroken = true;
            }
        }

        private boolean isNext(String allowed) {
            return !isBroken && place < length && allowed.indexOf(signs[place]) >= 0;
        }

        private int obeyAll(Game game) {
            int statements = 0;
            int start = 0;
            for (int end = 0; end < length; end++) {
                if (signs[end] == ';') {
                    if (!obey(game, start, end)) {
                        return BAD_STATEMENT - start;
                    }
                    statements++;
                    start = end + 1;
                }
            }
            return statements;
        }

        private boolean obey(Game game, int start, int end) {
            int letter = signs[start];
            switch (letter) {
                case 'z':
                    return obeySize(game, digitAt(start + 1), digitAt(start + 2));
                case 'e':
                    return obeyEdge(game, numberBetween(start + 1, end - 3), end);
                case 'c':
                    return obeyColour(game, numberBetween(start + 1, end - 2), digitAt(end - 1));
                default:
                    return obeyPerson(game, People.LETTERS.indexOf(signs[start + 1]), digitAt(end - 1));
            }
        }

        private boolean obeySize(Game game, int rows, int columns) {
            if (rows < 2 || rows > 4 || columns < 2 || columns > 4) {
                return false;
            }
            game.cut.cutAnew(rows, columns);
            game.board.clear();
            return true;
        }

        private boolean obeyEdge(Game game, int cell, int end) {
            int edgeClass = digitAt(end - 1);
            int toward = signs[end - 3] == 'r' ? RIGHT : DOWN;
            if (cell >= game.cut.cells || edgeClass < 1 || game.cut.beside(cell, toward) == Cut.RIM) {
                return false;
            }
            game.cut.setEdge(cell, toward, signs[end - 2] == '+' ? edgeClass : -edgeClass);
            return true;
        }

        private boolean obeyColour(Game game, int cell, int paint) {
            if (cell >= game.cut.cells) {
                return false;
            }
            game.cut.colours[cell] = paint;
            return true;
        }

        private boolean obeyPerson(Game game, int kind, int pace) {
            if (pace < 1 || game.people.number >= MOST_PEOPLE) {
                return false;
            }
            game.people.add(kind, pace);
            return true;
        }

        private int digitAt(int where) {
            return signs[where] - '0';
        }

        private int numberBetween(int from, int end) {
            int value = 0;
            for (int i = from; i < end; i++) {
                value = value * 10 + digitAt(i);
            }
            return value;
        }
    }

    /** A told row of pieces, cell by cell. */
    private static final class Told {
        private static final int NONE = 99;

        private final int[] pieces = new int[MOST_CELLS];
        private int length;

        private int add(int piece) {
            pieces[length] = piece;
            length++;
            return length;
        }

        private int compareWith(Game game) {
            int cells = game.cut.cells;
            int both = Math.min(length, cells);
            for (int cell = 0; cell < both; cell++) {
                int lying = game.board.isFilled(cell) ? game.board.pieces[cell] : NONE;
                if (pieces[cell] != lying) {
                    return cell;
                }
            }
            return length == cells ? NOTHING : both;
        }
    }

    /** Goes through the ways to lay all pieces; kept till the cut changes, for they are asked for cell by cell. */
    private static final class Search {
        private final Board mind = new Board();
        private final Board firstFound = new Board();
        private boolean isKnown;
        private int found;
        private int tried;

        private void goThrough(Cut cut) {
            if (isKnown) {
                return;
            }
            found = 0;
            tried = 0;
            mind.clear();
            layFrom(cut, 0);
            isKnown = true;
        }

        private void layFrom(Cut cut, int cell) {
            if (cell >= cut.cells) {
                found++;
                if (found == 1) {
                    firstFound.copyFrom(mind);
                }
                return;
            }
            for (int piece = 0; piece < cut.cells && tried <= MOST_TRIED; piece++) {
                if (!mind.isAway(piece)) {
                    layTurned(cut, cell, piece);
                }
            }
        }

        private void layTurned(Cut cut, int cell, int piece) {
            for (int turn = 0; turn < SIDES && tried <= MOST_TRIED; turn++) {
                tried++;
                if (tried <= MOST_TRIED && cut.isFit(mind, piece, turn, cell)) {
                    mind.put(cell, piece, turn, 0);
                    layFrom(cut, cell + 1);
                    mind.takeUp(cell);
                }
            }
        }
    }

    /** How long the rest takes by a rule, alone or at a table of several. */
    private static final class Work {
        private final Game mind = new Game();
        private final int[] order = new int[MOST_CELLS];
        private final int[] marks = new int[MOST_CELLS * SIDES];
        private int rule;
        private int toDo;
        private int marked;

        private int wholeBy(Game game, int byRule, int person) {
            begin(game, byRule);
            return sortingCost(game.board) + share(game, person, 0, 1, toDo);
        }

        private int halfBy(Game game, int byRule, int person) {
            begin(game, byRule);
            int behind = Math.min(toDo, Math.max(1, toDo / 2));
            return sortingCost(game.board) + share(game, person, 0, 1, behind);
        }

        private int together(Game game, int byRule, int n) {
            begin(game, byRule);
            int longest = 0;
            for (int person = 0; person < n; person++) {
                longest = Math.max(longest, share(game, person, person, n, toDo));
            }
            return longest + longest / 10 * Math.max(0, n - 3) + sortingCost(game.board);
        }

        private void begin(Game game, int byRule) {
            mind.copyFrom(game);
            rule = byRule;
            toDo = 0;
            if (rule == RIM_FIRST) {
                addCells(true, false);
                addCells(false, true);
            } else {
                addCells(true, true);
            }
        }

        private void addCells(boolean ofRim, boolean ofInside) {
            for (int cell = 0; cell < mind.cut.cells; cell++) {
                boolean isWanted = mind.cut.isAtRim[cell] ? ofRim : ofInside;
                if (isWanted && !mind.board.isFilled(cell)) {
                    order[toDo] = cell;
                    toDo++;
                }
            }
        }

        private int sortingCost(Board start) {
            int each = rule == COLOURS ? 2 : rule == FORMS || rule == MARKS ? 3 : 0;
            int sum = 0;
            for (int piece = 0; piece < mind.cut.cells; piece++) {
                if (!start.isAway(piece)) {
                    sum += each;
                }
            }
            return sum;
        }

        /** What every step-th of the cells in order takes one person, who sees only the own work. */
        private int share(Game game, int person, int from, int step, int end) {
            int spent = 0;
            mind.board.copyFrom(game.board);
            for (int i = from; i < end; i += Math.max(1, step)) {
                spent += fillCell(person, order[i]);
            }
            return spent;
        }

        private int fillCell(int person, int cell) {
            int spent = 0;
            marked = 0;
            for (int piece = 0; piece < mind.cut.cells; piece++) {
                if (mind.board.isAway(piece) || !isChosen(piece, cell)) {
                    continue;
                }
                for (int turn = 0; turn < SIDES; turn++) {
                    if (rule == MARKS && isMarked(piece, turn)) {
                        continue;
                    }
                    int kind = mind.cut.kindOf(mind.board, piece, turn, cell);
                    spent += mind.costOf(person, piece, cell, kind);
                    if (piece == cell && turn == 0) {
                        mind.board.put(cell, piece, turn, person);
                        return spent;
                    }
                    if (rule == MARKS && kind >= FAILED) {
                        mark(piece, turn);
                    }
                }
            }
            return spent;
        }

        private boolean isChosen(int piece, int cell) {
            Cut cut = mind.cut;
            switch (rule) {
                case RIM_FIRST:
                    return cut.isAtRim[piece] || !cut.isAtRim[cell];
                case COLOURS:
                    return cut.colours[piece] == cut.colours[cell];
                case FORMS:
                case MARKS:
                    return cut.nubsOf(piece) == cut.nubsOf(cell);
                default:
                    return true;
            }
        }

        private void mark(int piece, int turn) {
            marks[marked] = mind.cut.codeOf(piece, turn);
            marked++;
        }

        private boolean isMarked(int piece, int turn) {
            int code = mind.cut.codeOf(piece, turn);
            for (int i = 0; i < marked; i++) {
                if (marks[i] == code) {
                    return true;
                }
            }
            return false;
        }
    }

    /** The pieces as a heap: what of their sides pairs up and what does not. */
    private static final class Pile {
        /** Of flat sides how many (at 0), of each class nubs less holes: of all pieces, of those not lost, of a guess. */
        private final int[] all = new int[MOST_CLASS + 1];
        private final int[] here = new int[MOST_CLASS + 1];
        private final int[] guess = new int[MOST_CLASS + 1];

        private void weigh(Game game) {
            clear(all);
            clear(here);
            for (int piece = 0; piece < game.cut.cells; piece++) {
                add(all, game.cut, piece, 1);
                if (!game.board.isLost[piece]) {
                    add(here, game.cut, piece, 1);
                }
            }
        }

        private boolean isShort() {
            for (int kind = 1; kind <= MOST_CLASS; kind++) {
                if (here[kind] != 0) {
                    return true;
                }
            }
            return here[0] < all[0];
        }

        private int suspects(Cut cut) {
            int bits = 0;
            for (int piece = 0; piece < cut.cells; piece++) {
                System.arraycopy(all, 0, guess, 0, all.length);
                add(guess, cut, piece, -1);
                if (isAsHere()) {
                    bits |= 1 << piece;
                }
            }
            return bits;
        }

        private boolean isAsHere() {
            for (int kind = 0; kind <= MOST_CLASS; kind++) {
                if (guess[kind] != here[kind]) {
                    return false;
                }
            }
            return true;
        }

        private static void clear(int[] sums) {
            for (int kind = 0; kind < sums.length; kind++) {
                sums[kind] = 0;
            }
        }

        private static void add(int[] sums, Cut cut, int piece, int times) {
            for (int place = 0; place < SIDES; place++) {
                int value = cut.sideOf(piece, 0, place);
                sums[Math.abs(value)] += value < 0 ? -times : times;
            }
        }

        private int seemingPairs(Cut cut, Board board) {
            int pairs = 0;
            for (int one = 0; one < cut.cells; one++) {
                for (int other = one + 1; other < cut.cells; other++) {
                    if (!board.isLost[one] && !board.isLost[other]) {
                        pairs += seemingSides(cut, one, other);
                    }
                }
            }
            return pairs;
        }

        private static int seemingSides(Cut cut, int one, int other) {
            int pairs = 0;
            for (int place = 0; place < SIDES; place++) {
                int value = cut.sideOf(one, 0, place);
                int facing = cut.beside(one, place) == other ? (place + 2) % SIDES : SIDES;
                for (int far = 0; value != 0 && far < SIDES; far++) {
                    if (far != facing && value + cut.sideOf(other, 0, far) == 0) {
                        pairs++;
                    }
                }
            }
            return pairs;
        }
    }

    /** Tries drawn from a seed, laid in mind only. */
    private static final class Evening {
        private static final int WITHOUT_SIGN = 0x7fffffff;

        private final Board mind = new Board();
        private int seed;

        private int spend(Game game, int n, int z) {
            int number = 0;
            seed = z;
            mind.copyFrom(game.board);
            for (int i = 0; i < n; i++) {
                int person = draw(game.people.number);
                int piece = draw(game.cut.cells);
                int turn = draw(SIDES);
                int cell = draw(game.cut.cells);
                boolean isTry = !mind.isFilled(cell) && !mind.isAway(piece);
                if (isTry && game.cut.isFit(mind, piece, turn, cell)) {
                    mind.put(cell, piece, turn, person);
                    number++;
                }
            }
            return number;
        }

        private int draw(int below) {
            seed = seed * 1664525 + 1013904223;
            return below < 1 ? 0 : (seed & WITHOUT_SIGN) / 256 % below;
        }
    }
}
