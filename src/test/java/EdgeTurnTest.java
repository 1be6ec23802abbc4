/** Boundary cases of part 2, THE TURN, and of promises 8 to 12: a test for each sentence. */
public final class EdgeTurnTest {
    private static void theTurn() {
        Due.of("THE TURN (0 at first, 99 at most)");
        OneSocket x = Due.told("t50 10 0;");
        Due.due("now(0) at first", x.now(0), 0);
        Due.turns(x, 98);
        Due.due("now(0)", x.now(0), 98);
        Due.due("turn(): the last", x.turn(), 0);
        Due.due("now(0)", x.now(0), 99);
        Due.due("turn(): none behind it", x.turn(), -2);
        Due.due("now(0) at the end", x.now(0), 99);
    }

    private static void onIt() {
        Due.of("ON IT: a set of TELEPHONES (bits, HOLES at most; none at first)");
        OneSocket x = Due.told("t50 10 0;t50 10 0;t50 10 0;t50 10 0;t50 10 0;");
        Due.due("now(1) at first", x.now(1), 0);
        for (int k = 0; k < 5; k++) {
            Due.due("phone(" + k + ", 4) at first", x.phone(k, 4), 0);
        }
        for (int set = 0; set < 32; set++) {
            Due.due("one hole: puts(" + set + ") is refused",
                    x.puts(set) == -1 ? 1 : 0, Integer.bitCount(set) > 1 ? 1 : 0);
        }
        Due.due("now(1)", x.now(1), 16);
        for (int k = 0; k < 5; k++) {
            Due.due("phone(" + k + ", 4)", x.phone(k, 4), k == 4 ? 1 : 0);
        }
        Due.anew(x, "t50 10 0;t50 10 0;t50 10 0;t50 10 0;t50 10 0;h2;");
        for (int set = 0; set < 32; set++) {
            Due.due("two holes: puts(" + set + ") is refused",
                    x.puts(set) == -1 ? 1 : 0, Integer.bitCount(set) > 2 ? 1 : 0);
        }
        Due.due("now(1)", x.now(1), 24);
    }

    private static void callsAsTold() {
        Due.of("first CALLS of it, as they were told");
        OneSocket x = Due.told("t30 10 0;t30 10 0;c0 0 20;c1 0 30;c0 0 30;c1 0 1;c0 0 10;");
        x.turn();
        Due.levels("20 and 10, not 30; 30, then none is left for 1", x, 0, 0);
        Due.due("now(3)", x.now(3), 2);
        x = Due.told("t30 10 0;c0 0 30;c0 0 20;c0 0 10;");
        x.turn();
        Due.levels("30, so neither 20 nor 10", x, 0);
        Due.due("now(3)", x.now(3), 2);
    }

    private static void callsComeAheadOfFilling() {
        Due.of("first CALLS of it");
        OneSocket x = Due.told("t19 10 0;t21 1 9;t85 20 9;c0 0 20;c1 0 20;c2 0 6;h2;");
        x.puts(5);
        x.turn();
        Due.levels("19 misses and fills; 21 pays and runs down; 85 pays and fills from below 80", x, 29, 0, 99);
        Due.due("now(3)", x.now(3), 1);
    }

    private static void callsOfOtherTurns() {
        Due.of("first CALLS of it");
        OneSocket x = Due.told("t100 1 0;c0 0 1;c0 2 4;c0 60 50;");
        x.turn();
        Due.levels("turn 0", x, 99);
        x.turn();
        Due.levels("turn 1", x, 99);
        x.turn();
        Due.levels("turn 2", x, 95);
        Due.turns(x, 57);
        Due.levels("turn 59", x, 95);
        x.turn();
        Due.levels("turn 60", x, 45);
    }

    private static void needsAtLeast() {
        Due.of("if that TELEPHONE's LEVEL is NEEDS at least, it is that much less");
        OneSocket x = Due.told("t49 1 0;t50 1 0;t51 1 0;c0 0 50;c1 0 50;c2 0 50;");
        Due.due("turn()", x.turn(), 1);
        Due.levels("one less, as much, one more", x, 49, 0, 1);
        Due.due("now(3)", x.now(3), 1);
        x = Due.told("t0 1 0;t1 1 0;c0 0 1;c1 0 1;");
        x.turn();
        Due.levels("none and one", x, 0, 0);
        Due.due("now(3)", x.now(3), 1);
    }

    private static void nothingIsTaken() {
        Due.of("else the CALL is MISSED (nothing is taken)");
        OneSocket x = Due.told("t29 1 0;c0 0 30;");
        x.turn();
        Due.levels("missed", x, 29);
        Due.due("now(3)", x.now(3), 1);
        String eight = "t0 1 0;" + "c0 0 1;".repeat(8);
        x = Due.told(eight);
        x.turn();
        Due.due("now(3) of eight in one turn", x.now(3), 8);
    }

    private static void lessThanEighty() {
        Due.of("by what is told, as long as its LEVEL is less than 80; else by half of that");
        OneSocket x = Due.told("t79 20 0;t80 20 0;h2;");
        x.puts(3);
        x.turn();
        Due.levels("79 and 80", x, 99, 90);
        x = Due.told("t60 20 0;t59 20 0;h2;");
        x.puts(3);
        x.turn();
        x.turn();
        Due.levels("up to 80, and to 79", x, 90, 99);
    }

    private static void halfCut() {
        Due.of("else by half of that, cut, 1 at least");
        int[] fills = {1, 2, 3, 4, 5, 29, 30};
        int[] half = {1, 1, 1, 2, 2, 14, 15};
        for (int i = 0; i < fills.length; i++) {
            OneSocket x = Due.told("t80 " + fills[i] + " 9;");
            x.puts(1);
            x.turn();
            Due.levels("by " + fills[i], x, 80 + half[i]);
        }
    }

    private static void toHundred() {
        Due.of("1 at least; to 100");
        OneSocket x = Due.told("t79 30 9;t85 30 9;t86 30 9;t99 1 9;t100 1 9;h2;");
        x.puts(3);
        x.turn();
        Due.levels("109 and 100", x, 100, 100);
        x = Due.told("t79 21 9;t79 22 9;h2;");
        x.puts(3);
        x.turn();
        Due.levels("100 and 101", x, 100, 100);
        x = Due.told("t85 28 9;t86 28 9;t87 28 9;h2;");
        x.puts(3);
        x.turn();
        Due.levels("99 and 100", x, 99, 100);
        x = Due.told("t99 1 9;t100 1 9;h2;");
        x.puts(3);
        x.turn();
        Due.levels("one more, and none more", x, 100, 100);
        x.turn();
        Due.levels("full ones stay full", x, 100, 100);
    }

    private static void runsDown() {
        Due.of("any other one RUNS down, to 0");
        OneSocket x = Due.told("t10 30 9;t9 30 9;t8 30 9;t0 30 9;t5 30 0;");
        Due.due("turn()", x.turn(), 3);
        Due.levels("to 1, to 0, not below", x, 1, 0, 0, 0, 5);
        Due.due("turn()", x.turn(), 4);
        Due.levels("again", x, 0, 0, 0, 0, 5);
    }

    private static void darkOnIt() {
        Due.of("if it is ON IT and it is not DARK, FILLS");
        OneSocket x = Due.told("t50 10 4;t50 10 4;d1 2;d4 4;");
        x.puts(1);
        int[] levels = {60, 56, 52, 62, 58, 68};
        int[] turnsOn = {1, 1, 1, 2, 2, 3};
        for (int t = 0; t < levels.length; t++) {
            x.turn();
            Due.levels("turn " + t, x, levels[t], 46 - 4 * t);
            Due.due("turn " + t + ": phone(0, 3)", x.phone(0, 3), turnsOn[t]);
            Due.due("turn " + t + ": phone(0, 4)", x.phone(0, 4), 1);
        }
        x = Due.told("t50 10 4;d60 60;");
        x.puts(1);
        Due.turns(x, 60);
        Due.levels("ahead of turn 60", x, 100);
        x.turn();
        Due.levels("turn 60 is dark", x, 96);
        x.turn();
        Due.levels("turn 61 is not", x, 100);
    }

    private static void out() {
        Due.of("OUT: LEVEL 0");
        OneSocket x = Due.told("t0 1 1;t1 1 1;t2 1 1;t0 1 0;t100 1 1;");
        Due.due("now(2)", x.now(2), 9);
        Due.due("turn()", x.turn(), 3);
        Due.due("now(2)", x.now(2), 11);
        x.puts(1);
        Due.due("turn(): one comes back", x.turn(), 3);
        Due.due("now(2)", x.now(2), 14);
        Due.due("turn() of all", Due.told("t1 1 1;t0 1 1;t1 1 1;t1 1 1;t1 1 1;").turn(), 5);
        Due.due("turn() of none", new OneSocket().turn(), 0);
    }

    private static void gotUp() {
        Due.of("GOT UP: how often the set that is ON IT was changed to an unlike one.");
        OneSocket x = Due.told("t50 1 1;t50 1 1;h2;");
        Due.due("puts(0): none at first", x.puts(0), 0);
        Due.due("puts(1)", x.puts(1), 1);
        Due.due("puts(1): alike", x.puts(1), 1);
        Due.due("puts(3): one more", x.puts(3), 2);
        Due.due("puts(2): one less", x.puts(2), 3);
        Due.due("puts(0)", x.puts(0), 4);
        Due.due("puts(4) is refused", x.puts(4), -1);
        x.turn();
        Due.due("now(4)", x.now(4), 4);
    }

    private static void turnsOn() {
        Due.of("TURNS ON: of each TELEPHONE how many TURNS it filled.");
        OneSocket x = Due.told("t99 30 1;t0 1 1;t50 1 1;h2;d2 2;");
        x.puts(3);
        Due.due("phone(0, 3) at first", x.phone(0, 3), 0);
        x.turn();
        x.turn();
        Due.due("phone(0, 3): a full one fills too", x.phone(0, 3), 2);
        Due.due("phone(1, 3)", x.phone(1, 3), 2);
        Due.due("phone(2, 3)", x.phone(2, 3), 0);
        x.turn();
        Due.due("phone(1, 3): not in the dark", x.phone(1, 3), 2);
        x.puts(0);
        x.turn();
        Due.due("phone(1, 3): not off it", x.phone(1, 3), 2);
        OneSocket all = Due.told("t50 1 1;");
        all.puts(1);
        Due.turns(all, 99);
        Due.due("phone(0, 3) of all turns", all.phone(0, 3), 99);
    }

    private static void lent() {
        Due.of("LENT: a TELEPHONE loses n (1 .. 50) at once.");
        OneSocket x = Due.told("t100 1 1;t100 1 1;");
        Due.due("lends(0, 0)", x.lends(0, 0), -1);
        Due.due("lends(0, 1)", x.lends(0, 1), 99);
        Due.due("lends(0, 50)", x.lends(0, 50), 49);
        Due.due("lends(0, 51)", x.lends(0, 51), -1);
        Due.due("lends(0, -1)", x.lends(0, -1), -1);
        Due.due("lends(0, min)", x.lends(0, Integer.MIN_VALUE), -1);
        Due.due("lends(0, max)", x.lends(0, Integer.MAX_VALUE), -1);
        Due.levels("at once, and the other one not", x, 49, 100);
        Due.due("now(0)", x.now(0), 0);
    }

    private static void lentHasLess() {
        Due.of("LENT: the LEVEL. BAD; STATE: it has less.");
        OneSocket x = Due.told("t10 1 1;t0 1 1;");
        Due.due("lends(0, 11)", x.lends(0, 11), -2);
        Due.due("lends(0, 10)", x.lends(0, 10), 0);
        Due.due("lends(0, 1)", x.lends(0, 1), -2);
        Due.due("lends(1, 50)", x.lends(1, 50), -2);
        Due.due("lends(1, 51): bad goes first", x.lends(1, 51), -1);
        Due.due("lends(1, 0): bad goes first", x.lends(1, 0), -1);
        Due.due("lends(2, 1)", x.lends(2, 1), -1);
        Due.due("lends(-1, 1)", x.lends(-1, 1), -1);
        Due.due("now(7)", x.now(7), 1);
    }

    private static void latestThatWasNotRefused() {
        Due.of("UNDONE: the latest puts(), turn(), lends() that was not refused");
        OneSocket x = Due.told("t50 10 5;t3 1 3;c1 1 9;");
        x.puts(1);
        x.turn();
        x.turn();
        x.lends(0, 20);
        Due.nows("ahead", x, 2, 1, 2, 1, 1, 2, 1, 4);
        x.puts(4);
        x.lends(0, 51);
        x.lends(1, 1);
        x.keep(0);
        x.says(0, 1, 1, 1);
        x.rate(0, 0);
        x.plan(4, 0);
        Due.due("undo() of lends()", x.undo(), 3);
        Due.levels("lends() undone", x, 70, 0);
        Due.due("undo() of turn()", x.undo(), 2);
        Due.nows("turn 1 undone", x, 1, 1, 2, 0, 1, 1, 1, 2);
        Due.levels("turn 1 undone", x, 60, 0);
        Due.due("phone(0, 3)", x.phone(0, 3), 1);
        Due.due("undo() of turn()", x.undo(), 1);
        Due.nows("turn 0 undone", x, 0, 1, 0, 0, 1, 0, 1, 1);
        Due.due("undo() of puts()", x.undo(), 0);
        Due.nows("puts() undone", x, 0, 0, 0, 0, 0, 0, 1, 0);
        Due.due("undo() of nothing", x.undo(), -2);
        Due.due("count(4): what was said is not taken back", x.count(4), 1);
        Due.due("trace(): nor this", x.trace(), 1);
    }

    private static void putsOfTheSameSetCanBeUndone() {
        Due.of("UNDONE: the latest puts(), turn(), lends() that was not refused");
        OneSocket x = Due.told("t50 10 5;");
        x.puts(0);
        x.puts(1);
        x.puts(1);
        Due.due("now(7)", x.now(7), 3);
        Due.due("undo()", x.undo(), 2);
        Due.due("now(1)", x.now(1), 1);
        Due.due("undo()", x.undo(), 1);
        Due.due("now(1)", x.now(1), 0);
        Due.due("undo()", x.undo(), 0);
    }

    private static void tenAreKnown() {
        Due.of("(10 are known, older ones are lost)");
        OneSocket x = Due.told("t100 1 0;");
        for (int i = 1; i <= 12; i++) {
            x.lends(0, 1);
            Due.due("now(7) behind " + i, x.now(7), Math.min(i, 10));
        }
        for (int left = 9; left >= 0; left--) {
            Due.due("undo()", x.undo(), left);
            Due.levels("undone", x, 98 - left);
        }
        Due.due("undo(): the oldest two are lost", x.undo(), -2);
        Due.levels("the oldest two are lost", x, 98);
    }

    private static void tenAreKnownAllAround() {
        Due.of("(10 are known, older ones are lost)");
        for (int ahead = 0; ahead < 25; ahead++) {
            OneSocket x = Due.told("t100 1 0;");
            for (int i = 0; i < ahead; i++) {
                x.lends(0, 1);
            }
            for (int i = 0; i < ahead % 7; i++) {
                x.undo();
            }
            int level = x.phone(0, 0);
            int known = x.now(7);
            Due.due("now(7)", known, ahead < 10 ? ahead - ahead % 7 : 10 - ahead % 7);
            x.lends(0, 7);
            x.lends(0, 9);
            x.undo();
            Due.levels("one undone", x, level - 7);
            Due.due("undo()", x.undo(), Math.min(10, known + 2) - 2);
            Due.levels("both undone", x, level);
        }
    }

    private static void puts() {
        Due.of("A set is ON IT: GOT UP. BAD (bits of none; more than HOLES).");
        OneSocket x = Due.told("t50 1 1;t50 1 1;t50 1 1;h2;");
        Due.due("puts(8): the first bit of none", x.puts(8), -1);
        Due.due("puts(12)", x.puts(12), -1);
        Due.due("puts(16)", x.puts(16), -1);
        Due.due("puts(32)", x.puts(32), -1);
        Due.due("puts(-1)", x.puts(-1), -1);
        Due.due("puts(min)", x.puts(Integer.MIN_VALUE), -1);
        Due.due("puts(max)", x.puts(Integer.MAX_VALUE), -1);
        Due.due("puts(7): three of them", x.puts(7), -1);
        Due.due("now(1)", x.now(1), 0);
        Due.due("puts(6)", x.puts(6), 1);
        Due.due("puts(7): three of them", x.puts(7), -1);
        Due.due("now(1)", x.now(1), 6);
        x = Due.told("t50 1 1;h2;");
        Due.due("puts(3): two holes, but one telephone", x.puts(3), -1);
        Due.due("puts(1)", x.puts(1), 1);
        x = new OneSocket();
        Due.due("new: puts(0)", x.puts(0), 0);
        Due.due("new: now(7)", x.now(7), 1);
    }

    private static void turnAtTheEnd() {
        Due.of("A TURN goes by: how many are OUT then. STATE: it is TURN 99.");
        OneSocket x = Due.told("t99 1 1;t98 1 1;");
        Due.turns(x, 97);
        Due.due("turn(): from 97", x.turn(), 1);
        Due.due("turn(): from 98", x.turn(), 2);
        Due.due("turn(): from 99", x.turn(), -2);
        Due.due("turn(): from 99 again", x.turn(), -2);
        Due.due("puts() goes on", x.puts(1), 1);
        Due.due("undo()", x.undo(), 9);
        Due.due("undo()", x.undo(), 8);
        Due.due("now(0)", x.now(0), 98);
        Due.due("turn(): from 98 again", x.turn(), 2);
    }

    private static void undo() {
        Due.of("UNDONE: how many more may be. STATE: none.");
        OneSocket x = new OneSocket();
        Due.due("undo() of a new one", x.undo(), -2);
        x.turn();
        Due.due("undo()", x.undo(), 0);
        Due.due("undo()", x.undo(), -2);
        x.turn();
        Due.anew(x, "t5 1 1;");
        Due.due("undo() behind room()", x.undo(), -2);
        x.turn();
        x.keep(0);
        x.back(0);
        Due.due("undo() behind back()", x.undo(), -2);
    }

    private static void now() {
        Due.of("7 how many may be UNDONE. BAD.");
        OneSocket x = Due.told("t50 10 5;t3 1 3;h2;c1 0 9;");
        x.puts(1);
        x.turn();
        Due.nows("all of them", x, 1, 1, 2, 1, 1, 1, 1, 2);
        Due.due("now(-1)", x.now(-1), -1);
        Due.due("now(8)", x.now(8), -1);
        Due.due("now(min)", x.now(Integer.MIN_VALUE), -1);
        Due.due("now(max)", x.now(Integer.MAX_VALUE), -1);
    }

    private static void fair() {
        Due.of("FAIR: the most TURNS ON less the fewest.");
        Due.due("now(5) of none", new OneSocket().now(5), 0);
        OneSocket x = Due.told("t5 1 1;");
        x.puts(1);
        x.turn();
        Due.due("now(5) of one", x.now(5), 0);
        x = Due.told("t5 1 1;t5 1 1;");
        x.puts(2);
        x.turn();
        Due.due("now(5): 1 less 0", x.now(5), 1);
        x.puts(1);
        x.turn();
        Due.due("now(5): 1 less 1", x.now(5), 0);
        Due.turns(x, 97);
        Due.due("now(5): 98 less 1", x.now(5), 97);
    }

    private static void leans() {
        Due.of("of several the first ones: 10 times the one and the other one; NONE (less than two)");
        Due.due("now(6) of none", new OneSocket().now(6), -9);
        Due.due("now(6) of one", Due.told("t50 1 1;").now(6), -9);
        Due.due("now(6) of two", Due.told("t50 1 1;t51 1 1;").now(6), 10);
        Due.due("now(6) of two", Due.told("t51 1 1;t50 1 1;").now(6), 1);
        Due.due("now(6) of two alike", Due.told("t50 1 1;t50 1 1;").now(6), 0);
        Due.due("now(6) of five alike", Due.told("t0 1 1;t0 1 1;t0 1 1;t0 1 1;t0 1 1;").now(6), 0);
        Due.due("now(6) of several", Due.told("t5 1 1;t9 1 1;t3 1 1;t9 1 1;t3 1 1;").now(6), 12);
        Due.due("now(6): the last ones", Due.told("t5 1 1;t5 1 1;t5 1 1;t0 1 1;t100 1 1;").now(6), 43);
    }

    public static void main(String[] args) {
        theTurn();
        onIt();
        callsAsTold();
        callsComeAheadOfFilling();
        callsOfOtherTurns();
        needsAtLeast();
        nothingIsTaken();
        lessThanEighty();
        halfCut();
        toHundred();
        runsDown();
        darkOnIt();
        out();
        gotUp();
        turnsOn();
        lent();
        lentHasLess();
        latestThatWasNotRefused();
        putsOfTheSameSetCanBeUndone();
        tenAreKnown();
        tenAreKnownAllAround();
        puts();
        turnAtTheEnd();
        undo();
        now();
        fair();
        leans();
        Due.end("EdgeTurnTest");
    }
}
