/** What the tests share: answers that are compared, and texts that are told letter by letter. */
final class Due {
    private static int asked = 0;
    private static int wrong = 0;

    private Due() {
    }

    static void due(String call, long got, long want) {
        asked++;
        if (got != want) {
            wrong++;
            System.out.println(call + " answered " + got + ", due is " + want);
        }
    }

    static void type(OneSocket x, String text) {
        for (int i = 0; i < text.length(); i++) {
            due("type(" + (int) text.charAt(i) + ") of \"" + text + "\"", x.type(text.charAt(i)), i + 1);
        }
    }

    /** A new object that was told a text without a fault. */
    static OneSocket told(String text) {
        OneSocket x = new OneSocket();
        type(x, text);
        due("room() of \"" + text + "\"", x.room(), text.chars().filter(c -> c == ';').count());
        return x;
    }

    static void turns(OneSocket x, int many) {
        for (int i = 0; i < many; i++) {
            due("turn() is not refused", x.turn() >= 0 ? 1 : 0, 1);
        }
    }

    static void levels(String when, OneSocket x, int... due) {
        for (int k = 0; k < due.length; k++) {
            due(when + ": phone(" + k + ", 0)", x.phone(k, 0), due[k]);
        }
    }

    static void end(String test) {
        System.out.println(test + ": " + asked + " answers, " + wrong + " wrong");
        if (wrong != 0 || asked == 0) {
            System.exit(1);
        }
    }
}
