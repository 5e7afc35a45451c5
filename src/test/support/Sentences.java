import java.io.IOException;
import java.nio.charset.StandardCharsets;
import java.nio.file.Files;
import java.nio.file.Path;
import java.util.Set;
import java.util.TreeSet;

/** What the tests of single sentences share: each says which words of the document it is of, and looks at answers. */
class Sentences {
    /** Two by two, each edge of a class of its own: 0 has 1 and 2, 1 has 3 and -1, 2 has -2 and 4, 3 has -3 and -4. */
    static final String APART = "z22;e0r+1;e0d+2;e1d+3;e2r+4;";
    /** Three by three, a colour for each cell: by COLOURS everybody finds only the own. */
    static final String PAINTED = "c1,1;c2,2;c3,3;c4,4;c5,5;c6,6;c7,7;c8,8;";
    static final String TEXT_OF_64 = PAINTED + "pf9;pf9;pf9;pf9;pf9;pf9;";
    static final int FAR = 1000000000;
    static final int LEAST = Integer.MIN_VALUE;
    static final int MOST = Integer.MAX_VALUE;

    private static final String DOCUMENT = words("../shared/DOC.md");
    private static final Set<String> told = new TreeSet<>();
    private static String sentence = "";
    private static int asked = 0;
    private static int wrong = 0;

    private static String words(String path) {
        try {
            return Files.readString(Path.of(path), StandardCharsets.UTF_8).replaceAll("\\s+", " ");
        } catch (IOException e) {
            throw new IllegalStateException(e);
        }
    }

    /** The words must stand in the document, and no two tests are of the same ones. */
    static void says(String words) {
        sentence = words;
        if (!DOCUMENT.contains(words) || !told.add(words)) {
            wrong++;
            System.out.println("not in the document, or told twice: " + words);
        }
    }

    static void due(String call, int got, int want) {
        asked++;
        if (got != want) {
            wrong++;
            System.out.println("\"" + sentence + "\": " + call + " answered " + got + ", due is " + want);
        }
    }

    static void end() {
        System.out.println(told.size() + " sentences, " + asked + " answers looked at, " + wrong + " not as due");
        if (wrong != 0) {
            System.exit(1);
        }
    }

    static void feedText(AuntsPuzzle x, String text) {
        for (int from = 0; from < text.length(); from += 8) {
            int n = Math.min(8, text.length() - from);
            long bytes = 0;
            for (int i = 0; i < n; i++) {
                bytes |= (long) text.charAt(from + i) << (8 * i);
            }
            due("feed of " + text, x.feed(n, bytes), from + n);
        }
    }

    static int read(AuntsPuzzle x, String text) {
        feedText(x, text);
        return x.puzzle();
    }

    static int readNew(String text) {
        return read(new AuntsPuzzle(), text);
    }

    static AuntsPuzzle of(String text) {
        AuntsPuzzle x = new AuntsPuzzle();
        int statements = (int) text.chars().filter(sign -> sign == ';').count();
        due("puzzle() of " + text, read(x, text), statements);
        return x;
    }

    static int cellsOf(AuntsPuzzle x) {
        return x.count(0) * x.count(1);
    }

    static void lay(AuntsPuzzle x, int... cells) {
        for (int cell : cells) {
            due("laying " + cell, x.tryIt(0, cell, 0, cell), 1);
        }
    }

    static void layAll(AuntsPuzzle x) {
        for (int cell = 0; cell < cellsOf(x); cell++) {
            lay(x, cell);
        }
    }

    static void lose(AuntsPuzzle x, int... pieces) {
        for (int piece : pieces) {
            int before = x.count(4);
            due("losing " + piece, x.pocket(piece), before + 1);
        }
    }

    static void loseAll(AuntsPuzzle x) {
        for (int piece = 0; piece < cellsOf(x); piece++) {
            lose(x, piece);
        }
    }
}
