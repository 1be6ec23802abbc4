/** Boundary cases of part 1, TELEPHONES and THE TEXT, and of promises 1 to 7 and 24: a test for each sentence. */
public final class EdgeTextTest {
    private static final String ONE = "t50 10 5;";

    private static void telephones() {
        Due.of("(5 at most): LEVEL");
        String four = "t1 1 0;t2 1 0;t3 1 0;t4 1 0;";
        String five = four + "t5 1 0;";
        OneSocket x = Due.told(five);
        Due.due("count(0)", x.count(0), 5);
        Due.levels("five", x, 1, 2, 3, 4, 5, -1);
        Due.fault(five + "t6 1 0;", five.length());
        Due.fault(five + "t", five.length());
        Due.fault(five + "h1;c0 0 1; t6 1 0;", five.length() + 11);
        Due.due("count(0) of none", Due.told("h2;").count(0), 0);
    }

    private static void level() {
        Due.of("LEVEL (0 .. 100)");
        Due.levels("both ends", Due.told("t0 1 0;t100 1 0;"), 0, 100);
        Due.fault("t101 1 0;", 1);
        Due.fault("t-1 1 0;", 1);
    }

    private static void fills() {
        Due.of("FILLS by (1 .. 30)");
        OneSocket x = Due.told("t50 1 0;t50 30 0;");
        Due.due("phone(0, 1)", x.phone(0, 1), 1);
        Due.due("phone(1, 1)", x.phone(1, 1), 30);
        Due.fault("t50 0 0;", 4);
        Due.fault("t50 31 0;", 4);
        Due.fault("t50 100 0;", 4);
    }

    private static void runs() {
        Due.of("RUNS down by (0 .. 9)");
        OneSocket x = Due.told("t50 1 0;t50 1 9;");
        Due.due("phone(0, 2)", x.phone(0, 2), 0);
        Due.due("phone(1, 2)", x.phone(1, 2), 9);
        Due.fault("t50 1 10;", 6);
        Due.fault("t50 1 100;", 6);
    }

    private static void holes() {
        Due.of("(1, 2; 1 at first)");
        OneSocket x = new OneSocket();
        Due.due("new: count(1)", x.count(1), 1);
        Due.anew(x, "h2;");
        Due.due("h2: count(1)", x.count(1), 2);
        Due.anew(x, "h1;");
        Due.due("h1: count(1)", x.count(1), 1);
        Due.anew(x, "h2;");
        Due.anew(x, ONE);
        Due.due("not told: count(1)", x.count(1), 1);
        Due.fault("h0;", 1);
        Due.fault("h3;", 1);
        Due.fault("h100;", 1);
    }

    private static void calls() {
        Due.of("CALLS (8 at most)");
        String seven = ONE + "c0 1 1;c0 2 2;c0 3 3;c0 4 4;c0 5 5;c0 6 6;c0 7 7;";
        String eight = seven + "c0 8 8;";
        OneSocket x = Due.told(eight);
        Due.due("count(2)", x.count(2), 8);
        for (int i = 0; i < 8; i++) {
            Due.due("call(" + i + ", 0)", x.call(i, 0), 0);
            Due.due("call(" + i + ", 1)", x.call(i, 1), i + 1);
            Due.due("call(" + i + ", 2)", x.call(i, 2), i + 1);
        }
        Due.due("call(8, 0)", x.call(8, 0), -1);
        Due.fault(eight + "c0 9 9;", eight.length());
        Due.fault(eight + "c", eight.length());
        Due.fault(eight + "t1 1 1; c0 9 9;", eight.length() + 8);
        Due.due("count(2) of none", Due.told(ONE).count(2), 0);
    }

    private static void callsTurn() {
        Due.of("a TURN (0 .. 60), how much it NEEDS");
        OneSocket x = Due.told(ONE + "c0 0 1;c0 60 1;");
        Due.due("call(0, 1)", x.call(0, 1), 0);
        Due.due("call(1, 1)", x.call(1, 1), 60);
        Due.fault(ONE + "c0 61 1;", 12);
        Due.fault(ONE + "c0 100 1;", 12);
    }

    private static void callsNeeds() {
        Due.of("how much it NEEDS (1 .. 50)");
        OneSocket x = Due.told(ONE + "c0 0 1;c0 0 50;");
        Due.due("call(0, 2)", x.call(0, 2), 1);
        Due.due("call(1, 2)", x.call(1, 2), 50);
        Due.fault(ONE + "c0 0 0;", 14);
        Due.fault(ONE + "c0 0 51;", 14);
        Due.fault(ONE + "c0 0 100;", 14);
    }

    private static void darkTurns() {
        Due.of("DARK: TURNS a to b (0 .. 60) without current");
        OneSocket x = Due.told("d0 60;");
        Due.due("dark(0)", x.dark(0), 1);
        Due.due("dark(60)", x.dark(60), 1);
        Due.due("dark(61)", x.dark(61), 0);
        x = Due.told("d60 60;d0 0;");
        Due.due("dark(0)", x.dark(0), 1);
        Due.due("dark(1)", x.dark(1), 0);
        Due.due("dark(59)", x.dark(59), 0);
        Due.due("dark(60)", x.dark(60), 1);
        Due.fault("d61 61;", 1);
        Due.fault("d100 100;", 1);
        Due.fault("d60 61;", 4);
        Due.fault("d0 61;", 3);
        Due.fault("d0 100;", 3);
    }

    private static void darkOnes() {
        Due.of("(2 of these at most)");
        Due.due("count(3) of none", Due.told(ONE).count(3), 0);
        OneSocket x = Due.told("d5 9;d7 12;");
        Due.due("count(3)", x.count(3), 2);
        int[] asked = {4, 5, 9, 10, 12, 13};
        int[] dark = {0, 1, 1, 1, 1, 0};
        for (int i = 0; i < asked.length; i++) {
            Due.due("dark(" + asked[i] + ") of two over one another", x.dark(asked[i]), dark[i]);
        }
        Due.fault("d5 9;d7 12;d1 1;", 11);
        Due.fault("d5 9;d7 12; d", 12);
    }

    private static void letters() {
        Due.of("(200 letters at most)");
        String item = "d10 10;" + ONE;
        OneSocket x = Due.told(" ".repeat(200 - item.length()) + item);
        Due.due("count(0) of 200 letters", x.count(0), 1);
        Due.due("count(5) behind room()", x.count(5), 0);
        Due.type(x, " ".repeat(199));
        Due.due("type(): the last that has room", x.type(';'), 200);
        Due.due("type(): one too many", x.type(' '), -3);
        Due.due("count(5)", x.count(5), 200);
        Due.due("room(): the 200th letter", x.room(), -10 - 199);
    }

    private static void blanks() {
        Due.of("blanks (32) between TOKENS");
        Due.due("count(0) without blanks", Due.told("t9 1 0;t9 1 0;").count(0), 2);
        OneSocket x = Due.told("   t   9   1   0   ;   h   2   ;   ");
        Due.due("count(0) with blanks all over", x.count(0), 1);
        Due.due("count(1) with blanks all over", x.count(1), 2);
        Due.due("phone(0, 0) with blanks all over", x.phone(0, 0), 9);
        Due.due("count(0) of blanks alone", Due.told("    ").count(0), 0);
        int[] noBlanks = {0, 9, 10, 13, 31, 33, 160, 255};
        for (int letter : noBlanks) {
            Due.fault("t9" + (char) letter + "1 0;", 2);
            Due.fault(ONE + (char) letter, 9);
        }
        Due.fault("t1 0 0 9;", 3);
        Due.fault("t 9 9 9 9;", 8);
    }

    private static void itemsEnd() {
        Due.of("ITEMS, each ended by ;");
        Due.fault("t9 1 0", 6);
        Due.fault("t9 1 0 h1;", 7);
        Due.fault("h1 t9 1 0;", 3);
        Due.fault(ONE + "c0 1 1 d1 1;", 16);
        Due.fault("d1 1 d2 2;", 5);
        Due.fault(";", 0);
        Due.fault(ONE + ";", 9);
        Due.fault("h1;;", 3);
    }

    private static void holesOnce() {
        Due.of("h N (once at most)");
        Due.due("room() without h", Due.told(ONE).count(1), 1);
        Due.fault("h1;h1;", 3);
        Due.fault("h2;" + ONE + "h2;", 12);
        Due.fault("h2;h", 3);
        Due.fault("h2;h9;", 3);
    }

    private static void callsTelephone() {
        Due.of("c K T N (a CALL; a TELEPHONE that is told)");
        OneSocket x = Due.told("t1 1 0;t2 1 0;c0 3 4;c1 3 4;");
        Due.due("call(0, 0)", x.call(0, 0), 0);
        Due.due("call(1, 0)", x.call(1, 0), 1);
        Due.fault("t1 1 0;t2 1 0;c2 3 4;", 15);
        Due.fault("t1 1 0;c1 3 4;t2 1 0;", 8);
        Due.fault("c0 3 4;", 1);
        Due.fault("t1 1 0;t1 1 0;t1 1 0;t1 1 0;t1 1 0;c5 3 4;", 36);
        Due.due("call(0, 0)", Due.told("t1 1 0;t1 1 0;t1 1 0;t1 1 0;t1 1 0;c4 3 4;").call(0, 0), 4);
    }

    private static void darkEnds() {
        Due.of("d A B (b no less than a)");
        OneSocket x = Due.told("d30 30;");
        Due.due("dark(29)", x.dark(29), 0);
        Due.due("dark(30)", x.dark(30), 1);
        Due.due("dark(31)", x.dark(31), 0);
        Due.fault("d30 29;", 4);
        Due.fault("d1 0;", 3);
    }

    private static void firstTokenThatCannotStand() {
        Due.of("the place of the first letter of the first TOKEN that can't stand there");
        Due.fault("9;", 0);
        Due.fault("  9;", 2);
        Due.fault("tt9 1 0;", 1);
        Due.fault("t;", 1);
        Due.fault("t9;", 2);
        Due.fault("t9 1;", 4);
        Due.fault("t9 1 h1;", 5);
        Due.fault("t9 1 0 0;", 7);
        Due.fault("h;", 1);
        Due.fault("h1 1;", 3);
        Due.fault("h t9 1 0;", 2);
        Due.fault(ONE + "c;", 10);
        Due.fault(ONE + "c0;", 11);
        Due.fault(ONE + "c0 1;", 13);
        Due.fault(ONE + "c0 1 1 1;", 16);
        Due.fault("d;", 1);
        Due.fault("d1;", 2);
        Due.fault("d1 1 1;", 5);
        Due.fault("t31 31 31 31", 4);
        Due.fault("t9 1 77 x", 5);
        Due.fault("h3;h3;x", 1);
    }

    private static void otherLetters() {
        Due.of("of any other letter");
        for (int letter = 0; letter <= 255; letter++) {
            if ("thcd; 0123456789".indexOf(letter) < 0) {
                Due.fault((char) letter + ONE, 0);
                Due.fault("t9 1 0" + (char) letter + ";", 6);
            }
        }
        Due.fault("T50 10 5;", 0);
        Due.fault("t50 10 5:", 8);
        Due.fault("t5/ 10 5;", 2);
    }

    private static void numbersTooLarge() {
        Due.of("a NUMBER above 100 or with a 0 ahead of others, that TOKEN's");
        Due.levels("100 itself", Due.told("t100 10 5;"), 100);
        Due.fault("t 101 1 0;", 2);
        Due.fault("t 1000 1 0;", 2);
        Due.fault("t 2147483648 1 0;", 2);
        Due.fault("t 4294967301 1 0;", 2);
        Due.fault("t 18446744073709551621 1 0;", 2);
        Due.fault("t 1" + "0".repeat(150) + " 1 0;", 2);
        Due.fault("  101", 2);
    }

    private static void zeroAhead() {
        Due.of("with a 0 ahead of others");
        Due.levels("0 alone, and behind others", Due.told("t0 10 0;t10 20 0;t100 30 0;"), 0, 10, 100);
        Due.fault("t00 1 0;", 1);
        Due.fault("t05 1 0;", 1);
        Due.fault("t010 1 0;", 1);
        Due.fault("t5 01 0;", 3);
        Due.fault("t5 1 00;", 5);
        Due.fault("h02;", 1);
        Due.fault(ONE + "c00 1 1;", 10);
        Due.fault(ONE + "c0 01 1;", 12);
        Due.fault(ONE + "c0 1 01;", 14);
        Due.fault("d00 1;", 1);
        Due.fault("d0 01;", 3);
    }

    private static void endsTooEarly() {
        Due.of("the text's length, if it ends too early");
        String whole = "t50 10 5;h2;c0 1 1;d1 1;";
        for (int length = 0; length <= whole.length(); length++) {
            String start = whole.substring(0, length);
            if (start.isEmpty() || start.endsWith(";")) {
                Due.told(start);
            } else {
                Due.fault(start, length);
                Due.fault(start + "  ", length + 2);
            }
        }
        String full = " ".repeat(199) + "t";
        Due.fault(full, 200);
    }

    private static void numbersThatTheTextCutsShort() {
        Due.of("the text's length, if it ends too early");
        Due.fault("t101", 1);
        Due.fault("t00", 1);
        Due.fault("h3", 1);
        Due.fault("d1 0", 3);
        Due.fault("c0", 1);
    }

    private static void lettersBehindTheEnd() {
        Due.of("THE TEXT is empty");
        OneSocket x = new OneSocket();
        Due.type(x, "t9 1 0555;");
        x.clear();
        Due.type(x, "t9 1 5");
        Due.due("room(): digits of the older text are gone", x.room(), -16);
        x.clear();
        Due.type(x, "t9 1 5 7 t9 1 5;");
        x.clear();
        Due.type(x, "t9 1 5;");
        Due.due("room(): what stood behind is gone", x.room(), 1);
        Due.due("phone(0, 2)", x.phone(0, 2), 5);
        Due.fault(" ".repeat(198) + "t9", 200);
        Due.fault(" ".repeat(199) + "9", 199);
        Due.fault("t9 1" + " ".repeat(196), 200);
    }

    private static void newObject() {
        Due.of("As told; no TELEPHONES.");
        OneSocket x = new OneSocket();
        Due.counts("new", x, 0, 1, 0, 0, 0, 0);
        Due.nows("new", x, 0, 0, 0, 0, 0, 0, -9, 0);
        Due.due("phone(0, 0)", x.phone(0, 0), -1);
        Due.due("puts(0)", x.puts(0), 0);
        Due.due("puts(1)", x.puts(1), -1);
        Due.due("trace()", x.trace(), 0);
    }

    private static void typed() {
        Due.of("A letter (0 .. 255) comes to THE TEXT: how many it has. BAD; FULL.");
        OneSocket x = new OneSocket();
        Due.due("type(-1)", x.type(-1), -1);
        Due.due("type(256)", x.type(256), -1);
        Due.due("count(5) behind refused ones", x.count(5), 0);
        Due.due("type(0)", x.type(0), 1);
        Due.due("type(255)", x.type(255), 2);
        Due.due("type(min)", x.type(Integer.MIN_VALUE), -1);
        Due.due("type(max)", x.type(Integer.MAX_VALUE), -1);
        Due.due("count(5)", x.count(5), 2);
    }

    private static void cleared() {
        Due.of("THE TEXT is empty: how many letters it had.");
        OneSocket x = new OneSocket();
        Due.due("clear() of none", x.clear(), 0);
        Due.type(x, "t");
        Due.due("clear() of one", x.clear(), 1);
        Due.due("clear() again", x.clear(), 0);
        Due.type(x, "x".repeat(200));
        Due.due("clear() of a full one", x.clear(), 200);
        Due.due("type() has room again", x.type('h'), 1);
        Due.type(x, "2;");
        Due.due("room(): nothing of the old text is left", x.room(), 1);
    }

    private static void room() {
        Due.of("THE TEXT tells all anew, and is empty then: how many ITEMS.");
        OneSocket x = Due.told("t50 10 5;t40 10 5;h2;c1 1 1;d1 1;d3 3;");
        Due.counts("six items", x, 2, 2, 1, 2, 0, 0);
        Due.due("room() of an empty text", x.room(), 0);
        Due.counts("no items", x, 0, 1, 0, 0, 0, 0);
        Due.due("phone(0, 0)", x.phone(0, 0), -1);
        Due.due("call(0, 0)", x.call(0, 0), -1);
        Due.due("dark(1)", x.dark(1), 0);
        String most = "t1 1 0;t1 1 0;t1 1 0;t1 1 0;t1 1 0;h1;d0 0;d0 0;"
                + "c0 0 1;c0 0 1;c0 0 1;c0 0 1;c0 0 1;c0 0 1;c0 0 1;c0 0 1;";
        Due.counts("all that can be told", Due.told(most), 5, 1, 8, 2, 0, 0);
    }

    private static void phone() {
        Due.of("Of a TELEPHONE: 0 LEVEL, 1 FILLS, 2 RUNS, 3 TURNS ON, 4 whether it is ON IT. BAD.");
        OneSocket x = Due.told("t1 2 3;t4 5 6;");
        x.puts(2);
        int[] due = {4, 5, 6, 0, 1};
        for (int what = 0; what < due.length; what++) {
            Due.due("phone(1, " + what + ")", x.phone(1, what), due[what]);
        }
        Due.due("phone(1, -1)", x.phone(1, -1), -1);
        Due.due("phone(1, 5)", x.phone(1, 5), -1);
        Due.due("phone(-1, 0)", x.phone(-1, 0), -1);
        Due.due("phone(2, 0): such a place there is, but none told", x.phone(2, 0), -1);
        Due.due("phone(5, 0)", x.phone(5, 0), -1);
        Due.due("phone(min, 0)", x.phone(Integer.MIN_VALUE, 0), -1);
        Due.due("phone(max, 4)", x.phone(Integer.MAX_VALUE, 4), -1);
        Due.due("phone(0, max)", x.phone(0, Integer.MAX_VALUE), -1);
    }

    private static void call() {
        Due.of("Of a CALL: 0 the TELEPHONE, 1 TURN, 2 NEEDS. BAD.");
        OneSocket x = Due.told("t1 2 3;t4 5 6;c1 7 8;c0 9 10;");
        int[] due = {0, 9, 10};
        for (int what = 0; what < due.length; what++) {
            Due.due("call(1, " + what + ")", x.call(1, what), due[what]);
        }
        Due.due("call(0, 0)", x.call(0, 0), 1);
        Due.due("call(1, -1)", x.call(1, -1), -1);
        Due.due("call(1, 3)", x.call(1, 3), -1);
        Due.due("call(-1, 0)", x.call(-1, 0), -1);
        Due.due("call(2, 0)", x.call(2, 0), -1);
        Due.due("call(8, 0)", x.call(8, 0), -1);
        Due.due("call(min, 0)", x.call(Integer.MIN_VALUE, 0), -1);
        Due.due("call(max, 0)", x.call(Integer.MAX_VALUE, 0), -1);
    }

    private static void dark() {
        Due.of("Whether a TURN (0 .. 160) is DARK: 1, 0. BAD.");
        OneSocket x = Due.told("d0 0;d60 60;");
        Due.due("dark(-1)", x.dark(-1), -1);
        Due.due("dark(0)", x.dark(0), 1);
        Due.due("dark(1)", x.dark(1), 0);
        Due.due("dark(60)", x.dark(60), 1);
        Due.due("dark(61)", x.dark(61), 0);
        Due.due("dark(160)", x.dark(160), 0);
        Due.due("dark(161)", x.dark(161), -1);
        Due.due("dark(min)", x.dark(Integer.MIN_VALUE), -1);
        Due.due("dark(max)", x.dark(Integer.MAX_VALUE), -1);
        Due.turns(x, 3);
        Due.due("dark(0) behind it", x.dark(0), 1);
    }

    private static void count() {
        Due.of("0 TELEPHONES, 1 HOLES, 2 CALLS, 3 DARK ones, 4 SAID, 5 letters of THE TEXT. BAD.");
        OneSocket x = Due.told("t1 2 3;t1 2 3;t1 2 3;h2;c0 1 1;d1 1;d1 1;");
        x.says(0, 1, 1, 1);
        x.says(0, 1, 1, 1);
        x.says(0, 1, 1, 1);
        x.says(0, 1, 1, 1);
        Due.type(x, "hello");
        Due.counts("all of them", x, 3, 2, 1, 2, 4, 5);
        Due.due("count(-1)", x.count(-1), -1);
        Due.due("count(6)", x.count(6), -1);
        Due.due("count(min)", x.count(Integer.MIN_VALUE), -1);
        Due.due("count(max)", x.count(Integer.MAX_VALUE), -1);
    }

    public static void main(String[] args) {
        telephones();
        level();
        fills();
        runs();
        holes();
        calls();
        callsTurn();
        callsNeeds();
        darkTurns();
        darkOnes();
        letters();
        blanks();
        itemsEnd();
        holesOnce();
        callsTelephone();
        darkEnds();
        firstTokenThatCannotStand();
        otherLetters();
        numbersTooLarge();
        zeroAhead();
        endsTooEarly();
        numbersThatTheTextCutsShort();
        lettersBehindTheEnd();
        newObject();
        typed();
        cleared();
        room();
        phone();
        call();
        dark();
        count();
        Due.end("EdgeTextTest");
    }
}
