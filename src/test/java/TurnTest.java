/** Promises 8 puts, 9 turn, 10 lends, 11 undo, 12 now. */
public final class TurnTest {
    private static void puts() {
        OneSocket x = Due.told("t10 1 1;t10 1 1;t10 1 1;");
        Due.due("puts(0)", x.puts(0), 0);
        Due.due("puts(4)", x.puts(4), 1);
        Due.due("puts(4) again", x.puts(4), 1);
        Due.due("puts(1)", x.puts(1), 2);
        Due.due("puts(3)", x.puts(3), -1);
        Due.due("puts(8)", x.puts(8), -1);
        Due.due("puts(-1)", x.puts(-1), -1);
        Due.due("puts(min)", x.puts(Integer.MIN_VALUE), -1);
        Due.due("now(1)", x.now(1), 1);
        Due.due("phone(0, 4)", x.phone(0, 4), 1);
        Due.due("phone(2, 4)", x.phone(2, 4), 0);
        Due.due("puts(0)", x.puts(0), 3);
        Due.due("now(4)", x.now(4), 3);
        Due.due("now(7)", x.now(7), 5);
        x = Due.told("t10 1 1;t10 1 1;t10 1 1;h2;");
        Due.due("h2: puts(6)", x.puts(6), 1);
        Due.due("h2: puts(7)", x.puts(7), -1);
        Due.due("h2: puts(9)", x.puts(9), -1);
        Due.due("h2: puts(3)", x.puts(3), 2);
    }

    private static void filling() {
        OneSocket x = Due.told("t79 7 9;t99 1 0;h2;");
        x.puts(3);
        Due.due("turn()", x.turn(), 0);
        Due.levels("slower at eighty", x, 86, 100);
        x.turn();
        Due.levels("half, cut; one at least; to 100", x, 89, 100);
        Due.due("phone(1, 3): at 100 too", x.phone(1, 3), 2);
        x = Due.told("t80 30 9;t98 9 0;h2;");
        x.puts(3);
        x.turn();
        Due.levels("half at eighty itself", x, 95, 100);
        x = Due.told("t79 1 0;t80 1 0;h2;");
        x.puts(3);
        x.turn();
        Due.levels("one at least", x, 80, 81);
    }

    private static void running() {
        OneSocket x = Due.told("t5 9 9;t9 9 9;t10 9 9;t0 9 0;d0 0;");
        x.puts(1);
        Due.due("turn(): dark, so the one on it runs down too", x.turn(), 3);
        Due.levels("dark", x, 0, 0, 1, 0);
        Due.due("now(2)", x.now(2), 11);
        Due.due("phone(0, 3): dark turns do not count", x.phone(0, 3), 0);
        Due.due("turn()", x.turn(), 3);
        Due.levels("bright", x, 9, 0, 0, 0);
        Due.due("phone(0, 3)", x.phone(0, 3), 1);
        Due.due("now(0)", x.now(0), 2);
    }

    private static void calls() {
        OneSocket x = Due.told("t50 10 5;t30 10 5;c0 0 30;c0 0 30;c1 0 30;c0 0 20;c1 1 1;c0 1 10;");
        x.puts(1);
        Due.due("turn(): 50 pays 30 and 20, misses 30 between", x.turn(), 1);
        Due.levels("calls go first", x, 10, 0);
        Due.due("now(3)", x.now(3), 1);
        x.turn();
        Due.levels("second turn", x, 10, 0);
        Due.due("now(3)", x.now(3), 2);
    }

    private static void lastTurn() {
        OneSocket x = Due.told("t100 1 1;");
        Due.turns(x, 99);
        Due.due("now(0)", x.now(0), 99);
        Due.due("phone(0, 0)", x.phone(0, 0), 1);
        Due.due("turn() at 99", x.turn(), -2);
        Due.due("now(0)", x.now(0), 99);
        Due.due("now(7)", x.now(7), 10);
        Due.due("undo()", x.undo(), 9);
        Due.due("turn()", x.turn(), 0);
        Due.due("plan(4, 5): turns go on behind 99", x.plan(4, 5), 0);
        Due.due("plan(4, 0)", x.plan(4, 0), 0);
        Due.due("plan(4, 3)", x.plan(4, 3), 1);
        Due.due("fullBy(0, 61)", x.fullBy(0, 61), 60);
        Due.due("fullBy(0, 62)", x.fullBy(0, 62), -9);
        Due.due("latest(0, 60)", x.latest(0, 60), -1);
    }

    private static void lends() {
        OneSocket x = Due.told("t60 10 5;t3 1 0;");
        Due.due("lends(0, 50)", x.lends(0, 50), 10);
        Due.due("lends(0, 11)", x.lends(0, 11), -2);
        Due.due("lends(0, 10)", x.lends(0, 10), 0);
        Due.due("lends(0, 1)", x.lends(0, 1), -2);
        Due.due("lends(1, 1)", x.lends(1, 1), 2);
        Due.due("lends(0, 0)", x.lends(0, 0), -1);
        Due.due("lends(0, 51): bad goes first", x.lends(0, 51), -1);
        Due.due("lends(2, 1)", x.lends(2, 1), -1);
        Due.due("lends(-1, 1)", x.lends(-1, 1), -1);
        Due.due("now(7)", x.now(7), 3);
        Due.due("now(2)", x.now(2), 1);
    }

    private static void undo() {
        OneSocket x = Due.told("t50 10 5;t9 1 9;c1 0 10;");
        x.puts(1);
        x.turn();
        x.lends(0, 7);
        Due.levels("ahead of undo()", x, 53, 0);
        Due.due("undo() of lends()", x.undo(), 2);
        Due.levels("lends() undone", x, 60, 0);
        Due.due("undo() of turn()", x.undo(), 1);
        Due.levels("turn() undone", x, 50, 9);
        Due.due("now(0)", x.now(0), 0);
        Due.due("now(3)", x.now(3), 0);
        Due.due("phone(0, 3)", x.phone(0, 3), 0);
        Due.due("now(1)", x.now(1), 1);
        Due.due("undo() of puts()", x.undo(), 0);
        Due.due("now(1)", x.now(1), 0);
        Due.due("now(4)", x.now(4), 0);
        Due.due("undo() of nothing", x.undo(), -2);
    }

    private static void tenAreKnown() {
        OneSocket x = Due.told("t100 1 1;");
        for (int i = 1; i <= 23; i++) {
            x.turn();
            Due.due("now(7) behind " + i, x.now(7), Math.min(10, i));
        }
        for (int left = 9; left >= 0; left--) {
            Due.due("undo()", x.undo(), left);
            Due.due("now(0)", x.now(0), 13 + left);
            Due.levels("undone", x, 87 - left);
        }
        Due.due("undo(): older ones are lost", x.undo(), -2);
        Due.due("now(0)", x.now(0), 13);
        x.puts(1);
        Due.due("undo()", x.undo(), 0);
    }

    private static void refusedAreNotUndone() {
        OneSocket x = Due.told("t5 1 1;");
        x.puts(1);
        x.puts(2);
        x.lends(0, 6);
        x.lends(0, 99);
        Due.due("now(7)", x.now(7), 1);
    }

    private static void now() {
        OneSocket x = Due.told("t50 10 5;t80 10 5;t20 10 5;t80 10 5;t20 10 5;h2;");
        Due.due("now(6): of several the first", x.now(6), 12);
        Due.due("now(5)", x.now(5), 0);
        x.puts(3);
        x.turn();
        x.turn();
        x.puts(2);
        x.turn();
        Due.due("now(5): 3 less 0", x.now(5), 3);
        x.puts(20);
        x.turn();
        x.puts(8);
        x.turn();
        Due.due("now(5): 3 less 1", x.now(5), 2);
        Due.due("now(4)", x.now(4), 4);
        Due.due("now(-1)", x.now(-1), -1);
        Due.due("now(8)", x.now(8), -1);
        Due.due("now(6) of all alike", Due.told("t9 1 1;t9 1 1;").now(6), 0);
        Due.due("now(6) of one", Due.told("t9 1 1;").now(6), -9);
        Due.due("now(6) of two", Due.told("t9 1 1;t10 1 1;").now(6), 10);
        Due.due("now(5) of one", Due.told("t9 1 1;").now(5), 0);
        x = Due.told("t9 1 1;");
        x.puts(1);
        x.turn();
        Due.due("now(5) of one that filled", x.now(5), 0);
    }

    public static void main(String[] args) {
        puts();
        filling();
        running();
        calls();
        lastTurn();
        lends();
        undo();
        tenAreKnown();
        refusedAreNotUndone();
        now();
        Due.end("TurnTest");
    }
}
