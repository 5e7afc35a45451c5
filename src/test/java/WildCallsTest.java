import java.util.ArrayList;
import java.util.Arrays;
import java.util.Collections;
import java.util.HashMap;
import java.util.HashSet;
import java.util.List;
import java.util.Map;
import java.util.Random;
import java.util.Set;
import java.util.TreeMap;
import java.util.TreeSet;
import java.util.regex.Matcher;
import java.util.regex.Pattern;

/** Runs of drawn calls, wild ones among them, on the class and on a second telling of the document. */
public final class WildCallsTest {
    private static final String[] STARTS = {"z", "e", "c", "p"};
    private static final int RUNS = 400;

    private final Random random;
    private final AuntsPuzzle x = new AuntsPuzzle();
    private final Telling told = new Telling();
    private final List<String> calls = new ArrayList<>();
    private int refused = 0;

    private WildCallsTest(long seed) {
        random = new Random(seed);
    }

    private int upTo(int below) {
        return random.nextInt(below);
    }

    /** Mostly within the range, at times just outside, seldom far. */
    private int near(int below) {
        int way = upTo(40);
        if (way == 0) {
            return random.nextInt();
        }
        if (way == 1) {
            return -1;
        }
        if (way == 2) {
            return below;
        }
        return upTo(Math.max(1, below));
    }

    private int cell() {
        return near(told.cells());
    }

    private int someone() {
        return near(told.people.size());
    }

    private String statement() {
        int cell = upTo(told.cells() + 1);
        String number = (upTo(3) == 0 && cell < 10 ? "0" : "") + cell;
        switch (upTo(24)) {
            case 0:
                return "z" + (1 + upTo(5)) + (1 + upTo(5)) + ";";
            case 1:
                return "z" + (2 + upTo(3)) + (2 + upTo(3)) + ";";
            case 2:
            case 3:
            case 4:
                return "p" + "fcels".charAt(upTo(5)) + (upTo(9) == 0 ? 0 : 1 + upTo(9)) + ";";
            case 5:
            case 6:
            case 7:
            case 8:
            case 9:
                return "c" + number + "," + upTo(5) + ";";
            case 10:
                return STARTS[upTo(4)] + (char) upTo(256);
            default:
                return "e" + number + "rd".charAt(upTo(2)) + "+-".charAt(upTo(2)) + (upTo(30) == 0 ? 0 : 1 + upTo(3)) + ";";
        }
    }

    private void feedSome() {
        StringBuilder text = new StringBuilder();
        int number = upTo(6);
        for (int i = 0; i < number; i++) {
            text.append(statement());
        }
        for (int from = 0; from < text.length(); from += 8) {
            int n = Math.min(8, text.length() - from);
            long bytes = random.nextLong();
            for (int i = 0; i < n; i++) {
                bytes &= ~(255L << (8 * i));
                bytes |= (long) text.charAt(from + i) << (8 * i);
            }
            same("feed " + text, x.feed(n, bytes), told.feed(n, bytes));
        }
        if (upTo(10) > 0) {
            same("puzzle", x.puzzle(), told.puzzle());
        }
    }

    private void same(String call, int got, int want) {
        calls.add(call + " -> " + got);
        if (got != want) {
            throw new IllegalStateException(call + " answered " + got + ", due is " + want);
        }
        boolean wasRefused = told.refusedLast;
        told.refusedLast = false;
        if (wasRefused) {
            refused++;
            lookAtAll();
        }
    }

    private void lookAtAll() {
        for (int what = -1; what < 19; what++) {
            alike("count " + what, x.count(what), told.count(what));
        }
        for (int cell = 0; cell < told.cells(); cell++) {
            alike("colour", x.colour(cell), told.colour(cell));
            for (int what = 0; what < 4; what++) {
                alike("side", x.side(cell, 0, what), told.side(cell, 0, what));
                alike("laid", what == 3 ? 0 : x.laid(cell, what), what == 3 ? 0 : told.laid(cell, what));
            }
        }
        for (int person = 0; person < told.people.size(); person++) {
            for (int what = 0; what < 4; what++) {
                alike("person", x.person(person, what), told.person(person, what));
            }
        }
    }

    private void alike(String call, int got, int want) {
        if (got != want) {
            throw new IllegalStateException("looked at: " + call + " answered " + got + ", due is " + want);
        }
    }

    private void tryOften() {
        int a = someone();
        int b = cell();
        int c = near(4);
        int d = upTo(2) == 0 ? b : cell();
        if (upTo(3) == 0) {
            c = 0;
        }
        same("tryIt " + a + " " + b + " " + c + " " + d, x.tryIt(a, b, c, d), told.tryIt(a, b, c, d));
    }

    private void askBoard() {
        int a = someone();
        int b = cell();
        int c = near(4);
        int d = cell();
        int e = near(4);
        switch (upTo(8)) {
            case 0:
                same("side " + b + " " + c + " " + e, x.side(b, c, e), told.side(b, c, e));
                break;
            case 1:
                same("colour " + b, x.colour(b), told.colour(b));
                break;
            case 2:
                same("person " + a + " " + e, x.person(a, e), told.person(a, e));
                break;
            case 3:
                same("laid " + b + " " + c, x.laid(b, c), told.laid(b, c));
                break;
            case 4:
            case 5:
                same("fits " + b + " " + c + " " + d, x.fits(b, c, d), told.fits(b, c, d));
                break;
            default:
                same("seconds " + a + " " + b + " " + c + " " + d, x.seconds(a, b, c, d), told.seconds(a, b, c, d));
                break;
        }
    }

    private void change() {
        int b = cell();
        switch (upTo(8)) {
            case 0:
            case 1:
                same("lift " + b, x.lift(b), told.lift(b));
                break;
            case 2:
                same("pocket " + b, x.pocket(b), told.pocket(b));
                break;
            case 3:
            case 4:
                same("find " + b, x.find(b), told.find(b));
                break;
            case 5:
                same("image", x.image(), told.image());
                break;
            case 6:
                same("on", x.on(), told.on());
                break;
            default:
                int n = near(9);
                long bytes = random.nextLong();
                same("feed " + n, x.feed(n, bytes), told.feed(n, bytes));
                break;
        }
    }

    private void plan() {
        int rule = near(5);
        int a = someone();
        int n = 1 + someone();
        switch (upTo(8)) {
            case 0:
                int what = near(2);
                same("ways " + what, x.ways(what), told.ways(what));
                break;
            case 1:
                int b = cell();
                int part = near(2);
                same("first " + b + " " + part, x.first(b, part), told.first(b, part));
                break;
            case 2:
            case 3:
                same("done " + rule + " " + a, x.done(rule, a), told.done(rule, a));
                break;
            case 4:
                same("half " + rule + " " + a, x.half(rule, a), told.half(rule, a));
                break;
            case 5:
                same("bestRule " + a, x.bestRule(a), told.bestRule(a));
                break;
            case 6:
                same("table " + rule + " " + n, x.table(rule, n), told.table(rule, n));
                break;
            default:
                same("line " + rule, x.line(rule), told.line(rule));
                break;
        }
    }

    private void count() {
        int kind = near(10);
        int a = someone();
        int part = near(2);
        switch (upTo(12)) {
            case 0:
                same("seems", x.seems(), told.seems());
                break;
            case 1:
                same("wrong", x.wrong(), told.wrong());
                break;
            case 2:
                same("falseOne", x.falseOne(), told.falseOne());
                break;
            case 3:
                same("over", x.over(), told.over());
                break;
            case 4:
                same("balance " + kind, x.balance(kind), told.balance(kind));
                break;
            case 5:
                same("lacks", x.lacks(), told.lacks());
                break;
            case 6:
                same("which", x.which(), told.which());
                break;
            case 7:
                same("mine " + a + " " + part, x.mine(a, part), told.mine(a, part));
                break;
            case 8:
                same("hardest", x.hardest(), told.hardest());
                break;
            case 9:
                int n = near(1000);
                int k = near(100);
                same("keeper " + n + " " + k, x.keeper(n, k), told.keeper(n, k));
                break;
            case 10:
                int m = near(201);
                int z = random.nextInt();
                same("evening " + m + " " + z, x.evening(m, z), told.evening(m, z));
                break;
            default:
                int what = upTo(30) == 0 ? random.nextInt() : upTo(20) - 1;
                same("count " + what, x.count(what), told.count(what));
                break;
        }
    }

    private void tellRow() {
        int way = upTo(6);
        for (int i = 0; way > 1 && i < told.cells() + upTo(3) - 1; i++) {
            int lying = told.laid.containsKey(i) ? told.laid.get(i)[0] : 99;
            int v = upTo(30) == 0 ? near(100) : lying;
            same("row " + v, x.row(v), told.row(v));
        }
        if (way == 0) {
            int v = near(100);
            same("row " + v, x.row(v), told.row(v));
        } else {
            same("judge", x.judge(), told.judge());
        }
    }

    private void run() {
        while (calls.size() < 490) {
            int way = upTo(100);
            if (way < 7) {
                feedSome();
            } else if (way < 40) {
                tryOften();
            } else if (way < 55) {
                askBoard();
            } else if (way < 70) {
                change();
            } else if (way < 80) {
                plan();
            } else if (way < 97) {
                count();
            } else {
                tellRow();
            }
        }
        lookAtAll();
    }

    public static void main(String[] args) {
        long looked = 0;
        long refused = 0;
        for (int seed = 0; seed < RUNS; seed++) {
            WildCallsTest test = new WildCallsTest(seed);
            try {
                test.run();
            } catch (RuntimeException e) {
                System.out.println("seed " + seed + ", behind " + test.calls);
                System.out.println(e);
                System.exit(1);
            }
            looked += test.calls.size();
            refused += test.refused;
        }
        System.out.println(looked + " drawn calls are answered alike, " + refused + " of them refused");
    }
}

/** The document told a second time: plain, slow, and with nothing kept that can be found anew. */
final class Telling {
    private static final Pattern WHOLE = Pattern.compile(
        "z([0-9])([0-9]);|e([0-9]{1,2})([rd])([+-])([0-9]);|c([0-9]{1,2}),([0-9]);|p([fcels])([0-9]);");
    /** For each letter what may stand at each place behind it; "?" in front marks a byte that may lack. */
    private static final Map<Character, String[]> FORMS = Map.of(
        'z', new String[] {"0123456789", "0123456789", ";"},
        'e', new String[] {"0123456789", "?0123456789", "rd", "+-", "0123456789", ";"},
        'c', new String[] {"0123456789", "?0123456789", ",", "0123456789", ";"},
        'p', new String[] {"fcels", "0123456789", ";"});

    int rows = 3;
    int columns = 3;
    /** By "cell r" or "cell d": what the cell has there. Those that lack are 1. */
    Map<String, Integer> edges = new HashMap<>();
    Map<Integer, Integer> colours = new HashMap<>();
    /** Kind, pace, seconds. */
    List<int[]> people = new ArrayList<>();
    /** By cell: piece, turn, who. */
    Map<Integer, int[]> laid = new TreeMap<>();
    Set<Integer> lost = new TreeSet<>();
    String tape = "";
    List<Integer> row = new ArrayList<>();
    int tries = 0;
    int[] refusals = new int[7];
    boolean refusedLast = false;
    Telling kept = null;

    int cells() {
        return rows * columns;
    }

    private int refuse(int number) {
        refusedLast = true;
        refusals[-number]++;
        return number;
    }

    private void become(Telling other) {
        rows = other.rows;
        columns = other.columns;
        edges = new HashMap<>(other.edges);
        colours = new HashMap<>(other.colours);
        people = new ArrayList<>();
        for (int[] one : other.people) {
            people.add(one.clone());
        }
        laid = new TreeMap<>(other.laid);
        lost = new TreeSet<>(other.lost);
    }

    int feed(int n, long bytes) {
        if (n < 1) {
            return refuse(-4);
        }
        if (n > 8 || tape.length() + n > 64) {
            return refuse(-6);
        }
        for (int i = 0; i < n; i++) {
            tape += (char) (bytes >> (8 * i) & 255);
        }
        return tape.length();
    }

    /** Where the bytes stop being the beginning of some puzzle; -1 if they are one. */
    private static int badByte(String text) {
        int at = 0;
        do {
            if (at >= text.length() || !FORMS.containsKey(text.charAt(at))) {
                return at;
            }
            String[] form = FORMS.get(text.charAt(at));
            at++;
            for (String allowed : form) {
                boolean there = at < text.length() && text.charAt(at) != '?' && allowed.indexOf(text.charAt(at)) >= 0;
                if (!there && !allowed.startsWith("?")) {
                    return at;
                }
                at += there ? 1 : 0;
            }
        } while (at < text.length());
        return -1;
    }

    int puzzle() {
        String text = tape;
        tape = "";
        int bad = badByte(text);
        if (bad >= 0) {
            return -1000 - bad;
        }
        Telling next = new Telling();
        next.become(this);
        Matcher m = WHOLE.matcher(text);
        int statements = 0;
        while (m.find()) {
            if (!next.obeys(m)) {
                return -2000 - m.start();
            }
            statements++;
        }
        become(next);
        return statements;
    }

    private boolean obeys(Matcher m) {
        if (m.group(1) != null) {
            int r = Integer.parseInt(m.group(1));
            int c = Integer.parseInt(m.group(2));
            rows = r;
            columns = c;
            edges.clear();
            colours.clear();
            laid.clear();
            lost.clear();
            return r >= 2 && r <= 4 && c >= 2 && c <= 4;
        }
        if (m.group(3) != null) {
            int cell = Integer.parseInt(m.group(3));
            int value = Integer.parseInt(m.group(6));
            edges.put(cell + m.group(4), m.group(5).equals("+") ? value : -value);
            int other = m.group(4).equals("r") ? beside(cell, 1) : beside(cell, 2);
            return cell < cells() && other >= 0 && value > 0;
        }
        if (m.group(7) != null) {
            int cell = Integer.parseInt(m.group(7));
            colours.put(cell, Integer.parseInt(m.group(8)));
            return cell < cells();
        }
        int pace = Integer.parseInt(m.group(10));
        people.add(new int[] {"fcels".indexOf(m.group(9)), pace, 0});
        return pace > 0 && people.size() <= 6;
    }

    private int beside(int cell, int side) {
        int r = cell / columns + (side == 2 ? 1 : side == 0 ? -1 : 0);
        int c = cell % columns + (side == 1 ? 1 : side == 3 ? -1 : 0);
        return r < 0 || r >= rows || c < 0 || c >= columns ? -1 : r * columns + c;
    }

    private int has(int piece, int side) {
        int other = beside(piece, side);
        if (other < 0) {
            return 0;
        }
        if (side == 1 || side == 2) {
            return edges.getOrDefault(piece + (side == 1 ? "r" : "d"), 1);
        }
        return -edges.getOrDefault(other + (side == 3 ? "r" : "d"), 1);
    }

    private int[] turned(int piece, int turn) {
        int[] sides = new int[4];
        for (int s = 0; s < 4; s++) {
            sides[(s + turn) % 4] = has(piece, s);
        }
        return sides;
    }

    private boolean noCell(int number) {
        return number < 0 || number >= cells();
    }

    private boolean noPerson(int number) {
        return number < 0 || number >= people.size();
    }

    private boolean outside(int number, int below) {
        return number < 0 || number >= below;
    }

    private boolean isLaid(Map<Integer, int[]> board, int piece) {
        for (int[] one : board.values()) {
            if (one[0] == piece) {
                return true;
            }
        }
        return false;
    }

    int side(int piece, int turn, int side) {
        if (noCell(piece)) {
            return 1000000000 - refuse(-1);
        }
        if (outside(turn, 4) || outside(side, 4)) {
            return 1000000000 - refuse(-2);
        }
        return turned(piece, turn)[side];
    }

    int colour(int cell) {
        return noCell(cell) ? refuse(-1) : colours.getOrDefault(cell, 0);
    }

    int person(int person, int what) {
        if (noPerson(person)) {
            return refuse(-1);
        }
        if (outside(what, 4)) {
            return refuse(-2);
        }
        int did = 0;
        for (int[] one : laid.values()) {
            did += one[2] == person ? 1 : 0;
        }
        return what == 2 ? did : people.get(person)[what == 3 ? 2 : what];
    }

    int laid(int cell, int what) {
        if (noCell(cell)) {
            return refuse(-1);
        }
        if (outside(what, 3)) {
            return refuse(-2);
        }
        return laid.containsKey(cell) ? laid.get(cell)[what] : -9;
    }

    /** 0 not even the rim, 1 the rim alone, 2 it fits. */
    private int howWell(Map<Integer, int[]> board, int piece, int turn, int cell) {
        int[] sides = turned(piece, turn);
        int well = 2;
        for (int s = 0; s < 4; s++) {
            int other = beside(cell, s);
            if (other < 0 && sides[s] != 0 || other >= 0 && sides[s] == 0) {
                return 0;
            }
            int[] there = board.get(other);
            if (there != null && turned(there[0], there[1])[(s + 2) % 4] != -sides[s]) {
                well = 1;
            }
        }
        return well;
    }

    int fits(int piece, int turn, int cell) {
        if (noCell(piece) || noCell(cell)) {
            return refuse(-1);
        }
        if (outside(turn, 4)) {
            return refuse(-2);
        }
        Map<Integer, int[]> others = new TreeMap<>(laid);
        others.values().removeIf(one -> one[0] == piece);
        return howWell(others, piece, turn, cell) / 2;
    }

    private int kind(Map<Integer, int[]> board, int piece, int turn, int cell) {
        int well = howWell(board, piece, turn, cell);
        return well == 2 ? (piece == cell && turn == 0 ? 1 : 2) : well == 1 ? 4 : 3;
    }

    private int secondsOf(Map<Integer, int[]> board, int person, int piece, int turn, int cell) {
        int pace = people.get(person)[1];
        int up = (pace + 1) / 2;
        boolean rim = beside(cell, 0) < 0 || beside(cell, 1) < 0 || beside(cell, 2) < 0 || beside(cell, 3) < 0;
        int paint = colours.getOrDefault(piece, 0);
        int coloured = paint == colours.getOrDefault(cell, 0) ? up : pace;
        int[] costs = {pace, coloured, rim ? up : 2 * pace, paint == 3 ? 3 * pace : coloured, pace + 2};
        return costs[people.get(person)[0]] * (kind(board, piece, turn, cell) == 2 ? 2 : 1);
    }

    int seconds(int person, int piece, int turn, int cell) {
        if (noPerson(person) || noCell(piece) || noCell(cell)) {
            return refuse(-1);
        }
        if (outside(turn, 4)) {
            return refuse(-2);
        }
        return laid.containsKey(cell) ? refuse(-3) : secondsOf(laid, person, piece, turn, cell);
    }

    int tryIt(int person, int piece, int turn, int cell) {
        if (noPerson(person) || noCell(piece) || noCell(cell)) {
            return refuse(-1);
        }
        if (outside(turn, 4)) {
            return refuse(-2);
        }
        if (laid.containsKey(cell) || isLaid(laid, piece) || lost.contains(piece)) {
            return refuse(-3);
        }
        int kind = kind(laid, piece, turn, cell);
        people.get(person)[2] += secondsOf(laid, person, piece, turn, cell);
        tries++;
        if (kind < 3) {
            laid.put(cell, new int[] {piece, turn, person});
        }
        return kind;
    }

    int lift(int cell) {
        if (noCell(cell)) {
            return refuse(-1);
        }
        return laid.containsKey(cell) ? laid.remove(cell)[0] : refuse(-3);
    }

    int pocket(int piece) {
        if (noCell(piece)) {
            return refuse(-1);
        }
        if (isLaid(laid, piece) || !lost.add(piece)) {
            return refuse(-3);
        }
        return lost.size();
    }

    int find(int piece) {
        if (noCell(piece)) {
            return refuse(-1);
        }
        return lost.remove(piece) ? lost.size() : refuse(-3);
    }

    private int tried;
    private List<Map<Integer, int[]>> found;

    private void goThrough(Map<Integer, int[]> board) {
        if (board.isEmpty()) {
            tried = 0;
            found = new ArrayList<>();
        }
        int cell = board.size();
        if (cell == cells()) {
            found.add(new TreeMap<>(board));
        }
        for (int piece = 0; cell < cells() && piece < cells(); piece++) {
            for (int turn = 0; turn < 4 && !isLaid(board, piece); turn++) {
                if (tried > 20000 || ++tried > 20000) {
                    return;
                }
                if (howWell(board, piece, turn, cell) == 2) {
                    board.put(cell, new int[] {piece, turn, 0});
                    goThrough(board);
                    board.remove(cell);
                }
            }
        }
    }

    int ways(int what) {
        if (outside(what, 2)) {
            return refuse(-2);
        }
        goThrough(new TreeMap<>());
        return what == 1 ? tried : tried > 20000 ? -9 : found.size();
    }

    int first(int cell, int what) {
        if (noCell(cell)) {
            return refuse(-1);
        }
        if (outside(what, 2)) {
            return refuse(-2);
        }
        goThrough(new TreeMap<>());
        return found.isEmpty() ? -9 : found.get(0).get(cell)[what];
    }

    private boolean flat(int piece) {
        for (int side : turned(piece, 0)) {
            if (side == 0) {
                return true;
            }
        }
        return false;
    }

    private long nubs(int piece) {
        return Arrays.stream(turned(piece, 0)).filter(side -> side > 0).count();
    }

    private List<Integer> order(int rule) {
        List<Integer> order = new ArrayList<>();
        List<Integer> later = new ArrayList<>();
        for (int cell = 0; cell < cells(); cell++) {
            if (!laid.containsKey(cell)) {
                (rule == 1 && !flat(cell) ? later : order).add(cell);
            }
        }
        order.addAll(later);
        return order;
    }

    private int sorting(int rule) {
        int pieces = cells() - laid.size() - lost.size();
        return pieces * new int[] {0, 0, 2, 3, 3}[rule];
    }

    private List<Integer> candidates(Map<Integer, int[]> board, int rule, int cell) {
        List<Integer> candidates = new ArrayList<>();
        for (int piece = 0; piece < cells(); piece++) {
            boolean chosen = rule == 0
                || rule == 1 && (flat(piece) || !flat(cell))
                || rule == 2 && colours.getOrDefault(piece, 0).equals(colours.getOrDefault(cell, 0))
                || rule > 2 && nubs(piece) == nubs(cell);
            if (chosen && !lost.contains(piece) && !isLaid(board, piece)) {
                candidates.add(piece);
            }
        }
        return candidates;
    }

    private int alone(int rule, int person, List<Integer> own) {
        Map<Integer, int[]> board = new TreeMap<>(laid);
        int spent = 0;
        for (int cell : own) {
            Set<String> failed = new HashSet<>();
            search:
            for (int piece : candidates(board, rule, cell)) {
                for (int turn = 0; turn < 4; turn++) {
                    String form = Arrays.toString(turned(piece, turn));
                    if (rule == 4 && failed.contains(form)) {
                        continue;
                    }
                    spent += secondsOf(board, person, piece, turn, cell);
                    if (kind(board, piece, turn, cell) > 2) {
                        failed.add(form);
                    }
                    if (piece == cell && turn == 0) {
                        board.put(cell, new int[] {piece, turn, person});
                        break search;
                    }
                }
            }
        }
        return spent;
    }

    int done(int rule, int person) {
        if (outside(rule, 5)) {
            return refuse(-2);
        }
        return noPerson(person) ? refuse(-1) : sorting(rule) + alone(rule, person, order(rule));
    }

    int half(int rule, int person) {
        if (outside(rule, 5)) {
            return refuse(-2);
        }
        if (noPerson(person)) {
            return refuse(-1);
        }
        List<Integer> order = order(rule);
        int half = order.size() < 2 ? order.size() : order.size() / 2;
        return sorting(rule) + alone(rule, person, order.subList(0, half));
    }

    int bestRule(int person) {
        if (noPerson(person)) {
            return refuse(-1);
        }
        List<Integer> all = new ArrayList<>();
        for (int rule = 0; rule < 5; rule++) {
            all.add(done(rule, person));
        }
        return all.indexOf(Collections.min(all));
    }

    int table(int rule, int n) {
        if (outside(rule, 5)) {
            return refuse(-2);
        }
        if (n < 1) {
            return refuse(-4);
        }
        if (n > people.size()) {
            return refuse(-6);
        }
        List<Integer> order = order(rule);
        int longest = 0;
        for (int person = 0; person < n; person++) {
            List<Integer> own = new ArrayList<>();
            for (int cell : order) {
                if (order.indexOf(cell) % n == person) {
                    own.add(cell);
                }
            }
            longest = Math.max(longest, alone(rule, person, own));
        }
        int result = longest;
        for (int more = 4; more <= n; more++) {
            result += longest / 10;
        }
        return result + sorting(rule);
    }

    int line(int rule) {
        if (outside(rule, 5)) {
            return refuse(-2);
        }
        List<Integer> all = new ArrayList<>();
        for (int n = 1; n <= people.size(); n++) {
            all.add(table(rule, n));
        }
        return all.isEmpty() ? -9 : 1 + all.indexOf(Collections.min(all));
    }

    int seems() {
        int pairs = 0;
        for (int side = 0; side < 4 * cells(); side++) {
            for (int other = side + 1; other < 4 * cells(); other++) {
                int p = side / 4;
                int q = other / 4;
                boolean edge = beside(p, side % 4) == q && beside(q, other % 4) == p;
                boolean match = has(p, side % 4) != 0 && has(p, side % 4) == -has(q, other % 4);
                if (p != q && match && !edge && !lost.contains(p) && !lost.contains(q)) {
                    pairs++;
                }
            }
        }
        return pairs;
    }

    int wrong() {
        int right = 0;
        for (Map.Entry<Integer, int[]> one : laid.entrySet()) {
            right += one.getValue()[0] == one.getKey() && one.getValue()[1] == 0 ? 1 : 0;
        }
        return cells() - right;
    }

    int falseOne() {
        for (Map.Entry<Integer, int[]> one : laid.entrySet()) {
            if (one.getValue()[0] != one.getKey() || one.getValue()[1] != 0) {
                return one.getKey();
            }
        }
        return -9;
    }

    int over() {
        for (int piece = 0; piece < cells(); piece++) {
            boolean fits = isLaid(laid, piece) || lost.contains(piece);
            for (int place = 0; place < 4 * cells(); place++) {
                fits |= !laid.containsKey(place / 4) && howWell(laid, piece, place % 4, place / 4) == 2;
            }
            if (!fits) {
                return piece;
            }
        }
        return -9;
    }

    /** Balances of the classes 1 to 9, and at 0 how many flat sides there are. */
    private int[] balances(Set<Integer> without) {
        int[] sums = new int[10];
        for (int piece = 0; piece < cells(); piece++) {
            for (int s = 0; s < 4 && !without.contains(piece); s++) {
                int value = has(piece, s);
                sums[Math.abs(value)] += value == 0 ? 1 : Integer.signum(value);
            }
        }
        return sums;
    }

    int balance(int kind) {
        return kind < 1 || kind > 9 ? 1000000000 - refuse(-1) : balances(lost)[kind];
    }

    int lacks() {
        return Arrays.equals(balances(lost), balances(Set.of())) ? 0 : 1;
    }

    int which() {
        int bits = 0;
        for (int piece = 0; piece < cells() && lacks() == 1; piece++) {
            bits += Arrays.equals(balances(lost), balances(Set.of(piece))) ? 1 << piece : 0;
        }
        return bits;
    }

    int mine(int person, int part) {
        if (noPerson(person)) {
            return refuse(-1);
        }
        if (outside(part, 2)) {
            return refuse(-2);
        }
        int all = 0;
        for (int[] one : people) {
            all += one[2];
        }
        int own = people.get(person)[2];
        if (own == 0) {
            return part;
        }
        for (int divisor = own; divisor > 1; divisor--) {
            if (own % divisor == 0 && all % divisor == 0) {
                return (part == 0 ? own : all) / divisor;
            }
        }
        return part == 0 ? own : all;
    }

    int hardest() {
        List<Integer> all = new ArrayList<>();
        for (int k = 1; k <= 6; k++) {
            Telling other = new Telling();
            other.become(this);
            other.lost.clear();
            int number = 0;
            for (int cell = 0; cell < cells(); cell++) {
                for (int side = 1; side <= 2; side++) {
                    if (beside(cell, side) >= 0) {
                        other.edges.put(cell + (side == 1 ? "r" : "d"), (1 + number % k) * Integer.signum(has(cell, side)));
                        number++;
                    }
                }
            }
            all.add(other.seems());
        }
        return 1 + all.indexOf(Collections.max(all));
    }

    int keeper(int n, int k) {
        if (n < 0 || k < 1) {
            return refuse(-4);
        }
        if (n > 999 || k > 99) {
            return refuse(-6);
        }
        boolean[] wins = new boolean[n + 1];
        for (int left = 1; left <= n; left++) {
            for (int lays = 1; lays <= Math.min(k, left); lays++) {
                wins[left] |= !wins[left - lays];
            }
        }
        return wins[n] ? 1 : 0;
    }

    private long seed;

    private int draw(int below) {
        seed = (seed * 1664525 + 1013904223) & 0xffffffffL;
        return (int) ((seed & 0x7fffffffL) / 256 % below);
    }

    int evening(int n, int z) {
        if (n < 1) {
            return refuse(-4);
        }
        if (n > 200) {
            return refuse(-6);
        }
        if (people.isEmpty()) {
            return refuse(-3);
        }
        seed = z;
        Map<Integer, int[]> board = new TreeMap<>(laid);
        for (int i = 0; i < n; i++) {
            int who = draw(people.size());
            int piece = draw(cells());
            int turn = draw(4);
            int cell = draw(cells());
            boolean allowed = !board.containsKey(cell) && !isLaid(board, piece) && !lost.contains(piece);
            if (allowed && howWell(board, piece, turn, cell) == 2) {
                board.put(cell, new int[] {piece, turn, who});
            }
        }
        return board.size() - laid.size();
    }

    int row(int v) {
        if (v < 0) {
            return refuse(-4);
        }
        if (v > 99 || row.size() >= 16) {
            return refuse(-6);
        }
        row.add(v);
        return row.size();
    }

    int judge() {
        List<Integer> was = row;
        row = new ArrayList<>();
        for (int cell = 0; cell < cells(); cell++) {
            if (cell == was.size() || was.get(cell) != (laid.containsKey(cell) ? laid.get(cell)[0] : 99)) {
                return cell;
            }
        }
        return was.size() > cells() ? cells() : -9;
    }

    int image() {
        kept = new Telling();
        kept.become(this);
        return laid.size();
    }

    int on() {
        if (kept == null) {
            return refuse(-3);
        }
        become(kept);
        return laid.size();
    }

    int count(int what) {
        if (what >= 11 && what <= 16) {
            return refusals[what - 10];
        }
        int inner = 0;
        for (int cell = 0; cell < cells(); cell++) {
            inner += (beside(cell, 1) >= 0 ? 1 : 0) + (beside(cell, 2) >= 0 ? 1 : 0);
        }
        int[] all = {rows, columns, people.size(), laid.size(), lost.size(), inner, tries, row.size(), tape.length()};
        return outside(what, all.length) ? -9 : all[what];
    }
}
