import java.io.IOException;
import java.nio.file.Files;
import java.nio.file.Path;
import java.util.NoSuchElementException;
import java.util.Set;
import java.util.TreeSet;

/**
 * What the checks by hand have in common. A boundary check stands below the words of the document that it holds the
 * class to: terms() and promise() quote them, and a quote that is not in the document is told as wrong, so that a check
 * can be found by its sentence, and no check stands for a sentence that is not there (any more).
 */
class Checking {
    static final int NONE = -1;
    /** Nobody is ever willing, so the glass (5 hours of sand) lapses in its second hour without sand. */
    static final String UNFOND = "person a 0 0 0;person b 0 0 0;person c 0 0 0;glass g a b 10 2;";

    private static final Path DOCUMENT = Path.of("..", "shared", "DOC.md");
    private static final Set<Integer> QUOTED = new TreeSet<>();
    private static String document;
    private static String words = "";
    private static int wrong;

    private static String document() {
        if (document == null) {
            try {
                document = Files.readString(DOCUMENT);
            } catch (IOException e) {
                document = "";
            }
        }
        return document;
    }

    private static String section(String title) {
        int from = document().indexOf("\n## " + title);
        if (from < 0) {
            return "";
        }
        int to = document().indexOf("\n## ", from + 1);
        return document().substring(from, to < 0 ? document().length() : to);
    }

    private static void quote(String title, String sentence) {
        words = sentence;
        if (!document().isEmpty() && !section(title).contains(sentence)) {
            wrong++;
            System.out.println("not in the document, " + title + " '" + sentence + "'");
        }
    }

    /** The checks that follow hold the class to these words of 'Terms'. */
    static void terms(String sentence) {
        quote("Terms", sentence);
    }

    /** The checks that follow hold the class to these words of a promise. */
    static void promise(int number, String sentence) {
        QUOTED.add(number);
        quote("Promise " + number + ":", sentence);
    }

    /** The checks that follow hold the class to a promise as a whole. */
    static void promise(int number) {
        words = "promise " + number;
    }

    static void quotesAreDue(int from, int to) {
        for (int number = from; number <= to; number++) {
            if (!QUOTED.contains(number)) {
                wrong++;
                System.out.println("no check quotes promise " + number);
            }
        }
    }

    static void finish(String name) {
        System.out.println(name + (wrong == 0 ? ": all answers are as due" : ": " + wrong + " answers are not as due"));
        if (wrong != 0) {
            System.exit(1);
        }
    }

    static void due(String what, long got, long want) {
        if (got != want) {
            wrong++;
            System.out.println("'" + words + "': " + what + " answered " + got + ", due is " + want);
        }
    }

    static void due(String what, boolean got, boolean want) {
        due(what, got ? 1 : 0, want ? 1 : 0);
    }

    static void due(String what, String got, String want) {
        if (!got.equals(want)) {
            wrong++;
            System.out.println("'" + words + "': " + what + " is '" + got + "', due is '" + want + "'");
        }
    }

    static void tell(GlassVows x, String text) {
        x.end(0);
        for (int i = 0; i < text.length(); i += 20) {
            int[] n = new int[5];
            for (int j = 0; j < 20; j++) {
                n[j / 4] = n[j / 4] << 8 | (i + j < text.length() ? text.charAt(i + j) & 255 : 0);
            }
            x.feed(n[0], n[1], n[2], n[3], n[4]);
        }
        due("end(" + text.length() + ")", x.end(text.length()), true);
    }

    static GlassVows parishOf(String text) {
        GlassVows x = new GlassVows();
        tell(x, text);
        due("parish() of " + text, x.parish() >= 0, true);
        return x;
    }

    static int rollOf(GlassVows x, String text, int lives) {
        tell(x, text);
        return x.roll(lives);
    }

    static int sentenceOf(GlassVows x, String text) {
        tell(x, text);
        return x.sentence();
    }

    /** The GLASSES of which a new SENTENCE may be said, as bits. */
    static int saidBy(GlassVows x, String text) {
        due("sentence() of " + text, sentenceOf(x, text) > 0, true);
        int bits = 0;
        for (int k = 0; k < x.said(NONE); k++) {
            bits |= 1 << x.said(k);
        }
        return bits;
    }

    static int ringsOf(GlassVows x, int g, int left) {
        tell(x, "" + (char) left);
        return x.rings(g);
    }

    static String bannsOf(GlassVows x, int g) {
        StringBuilder s = new StringBuilder();
        int n = x.banns(g);
        for (int i = 0; i < n; i++) {
            s.append((char) x.byteAt(i));
        }
        return s.toString();
    }

    /** As many hours as are told, whatever hours() takes at once. */
    static void live(GlassVows x, int hours) {
        for (int rest = hours; rest > 0; rest -= 60) {
            due("hours", x.hours(Math.min(60, rest)), Math.min(60, rest));
        }
    }

    static boolean personThrows(GlassVows x, int p, int what) {
        try {
            x.person(p, what);
            return false;
        } catch (NoSuchElementException e) {
            return true;
        }
    }

    static boolean glassThrows(GlassVows x, int g, int what) {
        try {
            x.glass(g, what);
            return false;
        } catch (NoSuchElementException e) {
            return true;
        }
    }

    /** All that person(), glass(), now() and count() (but for the tape) tell, as one text. */
    static String stateOf(GlassVows x) {
        StringBuilder s = new StringBuilder();
        for (int what = 0; what < 8; what++) {
            s.append(x.count(what)).append(' ');
        }
        for (int what = 0; what < 6; what++) {
            s.append(x.now(what)).append(' ');
        }
        for (int p = 0; p < x.count(0); p++) {
            for (int what = 0; what < 6; what++) {
                s.append(x.person(p, what)).append(' ');
            }
        }
        for (int g = 0; g < x.count(1); g++) {
            for (int what = 0; what < 10; what++) {
                s.append(x.glass(g, what)).append(' ');
            }
        }
        return s.toString();
    }

    /** All that is asked by what would go on, as one text; some 60 calls for each glass. */
    static String answersOf(GlassVows x) {
        StringBuilder s = new StringBuilder(stateOf(x));
        s.append(x.soonest()).append(" ").append(x.said(NONE));
        for (int k = 0; k < x.count(2); k++) {
            s.append(' ').append(x.good(k, 0)).append(' ').append(x.good(k, 1)).append(' ').append(x.good(k, 2));
        }
        for (int g = 0; g < x.count(1); g++) {
            int[] answers = {x.ends(g), x.lapses(g), x.watch(g, 60), x.waking(0), x.chosen(g), x.choices(g), x.play(g),
                x.playAt(g), x.steal(g, x.now(0) + 9), x.steal(g, 600), x.parts(g), x.parted(g), x.law(1 << g, 20),
                x.together(g, 60), x.odds(g, 5, 7), ringsOf(x, g, x.glass(g, 4))};
            for (int answer : answers) {
                s.append(' ').append(answer);
            }
            s.append(' ').append(bannsOf(x, g));
        }
        return s.toString();
    }
}
