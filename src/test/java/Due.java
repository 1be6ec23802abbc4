import java.io.IOException;
import java.nio.file.Files;
import java.nio.file.Path;

/** What the tests share: answers that are compared, and texts that are told letter by letter. */
final class Due {
    private static final Path DOCUMENT = Path.of("../shared/DOC.md");
    private static int asked = 0;
    private static int wrong = 0;
    private static String sentence = "";
    private static String document = null;

    private Due() {
    }

    /** What follows tests these words of the document; they must stand there, lest tests and document part. */
    static void of(String words) {
        sentence = "";
        boolean says = document().isEmpty() || document().contains(plain(words));
        due("the document says \"" + words + "\"", says ? 1 : 0, 1);
        sentence = "\"" + words + "\": ";
    }

    private static String document() {
        if (document == null) {
            try {
                document = plain(Files.readString(DOCUMENT));
            } catch (IOException e) {
                document = "";
            }
        }
        return document;
    }

    private static String plain(String text) {
        return text.replaceAll("\\s+", " ");
    }

    static void due(String call, long got, long want) {
        asked++;
        if (got != want) {
            wrong++;
            System.out.println(sentence + call + " answered " + got + ", due is " + want);
        }
    }

    static void type(OneSocket x, String text) {
        int had = x.count(5);
        for (int i = 0; i < text.length(); i++) {
            due("type(" + (int) text.charAt(i) + ") of \"" + text + "\"", x.type(text.charAt(i)), had + i + 1);
        }
    }

    /** A new object that was told a text without a fault. */
    static OneSocket told(String text) {
        OneSocket x = new OneSocket();
        anew(x, text);
        return x;
    }

    /** A text without a fault tells all anew. */
    static void anew(OneSocket x, String text) {
        type(x, text);
        due("room() of \"" + text + "\"", x.room(), text.chars().filter(c -> c == ';').count());
    }

    /** A text with a fault: its place, told to a new object. */
    static void fault(String text, int place) {
        OneSocket x = new OneSocket();
        type(x, text);
        due("room() of \"" + text + "\"", x.room(), -10 - place);
    }

    static void turns(OneSocket x, int many) {
        for (int i = 0; i < many; i++) {
            due("turn() is not refused", x.turn() >= 0 ? 1 : 0, 1);
        }
    }

    static void levels(String when, OneSocket x, int... due) {
        for (int k = 0; k < due.length; k++) {
            due(when + ": phone(" + k + ", 0)", x.phone(k, 0), due[k]);
        }
    }

    static void nows(String when, OneSocket x, int... due) {
        for (int what = 0; what < due.length; what++) {
            due(when + ": now(" + what + ")", x.now(what), due[what]);
        }
    }

    static void counts(String when, OneSocket x, int... due) {
        for (int what = 0; what < due.length; what++) {
            due(when + ": count(" + what + ")", x.count(what), due[what]);
        }
    }

    static void end(String test) {
        sentence = "";
        System.out.println(test + ": " + asked + " answers, " + wrong + " wrong");
        if (wrong != 0 || asked == 0) {
            System.exit(1);
        }
    }
}
