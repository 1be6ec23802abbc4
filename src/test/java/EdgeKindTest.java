/** Boundary cases of part 4, KINDS and IMAGES, and of promises 21 to 25: a test for each sentence. */
public final class EdgeKindTest {
    private static final int NO = -1000000;

    private static void rates(String when, OneSocket x, int k, int... due) {
        for (int kind = 0; kind < due.length; kind++) {
            Due.due(when + ": rate(" + kind + ", " + k + ")", x.rate(kind, k), due[kind]);
        }
    }

    private static void kinds() {
        Due.of("0 TELEPHONE; 1 ALARM, 2 LAMP, 5 SIXTH ONE (each under TELEPHONE); "
                + "3 BABY PHONE (under ALARM); 4 RADIO (under LAMP)");
        OneSocket x = Due.told("t10 1 3;t20 1 4;t30 1 5;t40 1 6;t50 1 7;c4 9 1;c4 9 1;c4 9 1;c1 9 1;");
        x.puts(16);
        x.turn();
        rates("the first", x, 0, 7, 7, 4, 14, 4, 7);
        rates("one with a call", x, 1, 16, 17, 12, 34, 13, 16);
        rates("the last, filled once, with three calls", x, 4, 51, 54, 44, 108, 48, 52);
    }

    private static void belowNought() {
        Due.of("LAMP up less RUNS (100).");
        OneSocket x = Due.told("t0 1 9;t8 1 9;t9 1 9;t0 1 0;");
        Due.due("rate(2, 0)", x.rate(2, 0), -9);
        Due.due("rate(2, 1)", x.rate(2, 1), -1);
        Due.due("rate(2, 2)", x.rate(2, 2), 0);
        Due.due("rate(2, 3)", x.rate(2, 3), 0);
        Due.due("rate(4, 0)", x.rate(4, 0), -9);
        Due.due("rate(4, 1)", x.rate(4, 1), 0);
    }

    private static void greatest() {
        Due.of("ALARM up, and how many CALLS it has (10).");
        OneSocket x = Due.told("t100 1 0;t100 1 0;" + "c0 0 1;".repeat(8));
        rates("eight calls", x, 0, 100, 108, 100, 216, 100, 100);
        rates("no calls", x, 1, 100, 100, 100, 200, 101, 100);
        x.turn();
        Due.due("rate(1, 0): calls gone by are its calls too", x.rate(1, 0), 100);
    }

    private static void sixthOne() {
        Due.of("SIXTH ONE up, and TURNS ON (100000).");
        OneSocket x = Due.told("t0 1 0;d1 1;");
        Due.due("rate(5, 0)", x.rate(5, 0), 0);
        x.puts(1);
        Due.turns(x, 2);
        Due.due("rate(5, 0): one turn was dark", x.rate(5, 0), 2);
        Due.turns(x, 97);
        Due.due("rate(5, 0): at the end", x.rate(5, 0), 98 + 98);
    }

    private static void traceOfEach() {
        Due.of("are added to THE TRACE, 0 at first, as often as rate() asks that body: each once;");
        long[] due = {1, 11, 101, 1011, 10101, 100001};
        for (int kind = 0; kind < due.length; kind++) {
            OneSocket x = Due.told("t10 1 3;c0 9 1;");
            Due.due("trace() at first", x.trace(), 0);
            x.rate(kind, 0);
            Due.due("trace() of kind " + kind, x.trace(), due[kind]);
            x.rate(kind, 0);
            Due.due("trace() of kind " + kind + " twice", x.trace(), 2 * due[kind]);
        }
    }

    private static void traceGrows() {
        Due.of("THE TRACE.");
        OneSocket x = Due.told("t10 1 3;");
        for (int i = 1; i <= 400; i++) {
            x.rate(5, 0);
        }
        Due.due("trace()", x.trace(), 40000400L);
        Due.due("trace() asked again", x.trace(), 40000400L);
    }

    private static void rateRefused() {
        Due.of("RATE. NO: BAD.");
        OneSocket x = Due.told("t10 1 3;t10 1 3;");
        x.rate(0, 0);
        Due.due("rate(-1, 0)", x.rate(-1, 0), NO);
        Due.due("rate(6, 0)", x.rate(6, 0), NO);
        Due.due("rate(0, -1)", x.rate(0, -1), NO);
        Due.due("rate(0, 2)", x.rate(0, 2), NO);
        Due.due("rate(5, 5)", x.rate(5, 5), NO);
        Due.due("rate(min, 0)", x.rate(Integer.MIN_VALUE, 0), NO);
        Due.due("rate(max, 0)", x.rate(Integer.MAX_VALUE, 0), NO);
        Due.due("rate(0, min)", x.rate(0, Integer.MIN_VALUE), NO);
        Due.due("rate(0, max)", x.rate(0, Integer.MAX_VALUE), NO);
        Due.due("trace(): refused ones leave none", x.trace(), 1);
        Due.due("rate(5, 1)", x.rate(5, 1), 10);
        for (int kind = 0; kind < 6; kind++) {
            Due.due("new: rate(" + kind + ", 0)", new OneSocket().rate(kind, 0), NO);
        }
    }

    private static void imagesHoldNow() {
        Due.of("IMAGES 0, 1 keep NOW (THE TURN, LEVELS, what is ON IT, GOT UP, TURNS ON, MISSED)");
        OneSocket x = Due.told("t50 10 5;t20 10 3;t7 1 9;h2;c2 0 9;c1 1 9;c1 2 9;");
        x.puts(3);
        x.turn();
        Due.due("keep(1)", x.keep(1), 1);
        x.puts(4);
        x.turn();
        x.lends(0, 9);
        x.turn();
        Due.due("back(1)", x.back(1), 1);
        Due.nows("image 1", x, 1, 3, 4, 1, 1, 1, 2, 0);
        Due.levels("image 1", x, 60, 30, 0);
        int[] on = {1, 1, 0};
        for (int k = 0; k < 3; k++) {
            Due.due("image 1: phone(" + k + ", 3)", x.phone(k, 3), on[k]);
            Due.due("image 1: phone(" + k + ", 4)", x.phone(k, 4), on[k]);
        }
        x.turn();
        Due.levels("turns go on from there", x, 70, 31, 0);
        Due.nows("turns go on from there", x, 2, 3, 4, 1, 1, 2, 2, 1);
        Due.due("back(1): it is not used up, nor changed", x.back(1), 1);
        Due.levels("image 1 again", x, 60, 30, 0);
        Due.nows("image 1 again", x, 1, 3, 4, 1, 1, 1, 2, 0);
    }

    private static void imagesAreTwo() {
        Due.of("An IMAGE is kept: THE TURN. BAD.");
        OneSocket x = Due.told("t50 10 5;");
        Due.due("keep(-1)", x.keep(-1), -1);
        Due.due("keep(2)", x.keep(2), -1);
        Due.due("keep(min)", x.keep(Integer.MIN_VALUE), -1);
        Due.due("keep(max)", x.keep(Integer.MAX_VALUE), -1);
        Due.due("back(0): none of these was kept", x.back(0), -2);
        Due.due("back(1): none of these was kept", x.back(1), -2);
        Due.due("keep(0)", x.keep(0), 0);
        x.turn();
        Due.due("keep(1)", x.keep(1), 1);
        x.turn();
        Due.due("back(0)", x.back(0), 0);
        Due.levels("image 0", x, 50);
        Due.due("back(1)", x.back(1), 1);
        Due.levels("image 1", x, 45);
        x.turn();
        Due.due("keep(0) anew", x.keep(0), 2);
        Due.due("back(1)", x.back(1), 1);
        Due.due("back(0)", x.back(0), 2);
        Due.levels("image 0 anew", x, 40);
        Due.turns(x, 97);
        Due.due("keep(0) at the end", x.keep(0), 99);
        Due.due("back(0) at the end", x.back(0), 99);
    }

    private static void backRefused() {
        Due.of("All of that becomes as an IMAGE has it: THE TURN. BAD; STATE: none was kept.");
        OneSocket x = Due.told("t50 10 5;");
        Due.due("back(0)", x.back(0), -2);
        Due.due("back(1)", x.back(1), -2);
        Due.due("back(-1): bad goes first", x.back(-1), -1);
        Due.due("back(2): bad goes first", x.back(2), -1);
        Due.due("back(min)", x.back(Integer.MIN_VALUE), -1);
        Due.due("back(max)", x.back(Integer.MAX_VALUE), -1);
        x.keep(1);
        Due.due("back(0): the other one was kept", x.back(0), -2);
        Due.due("back(1)", x.back(1), 0);
        x = new OneSocket();
        Due.due("new: keep(0)", x.keep(0), 0);
        Due.due("new: back(0)", x.back(0), 0);
        Due.due("new: back(1)", x.back(1), -2);
    }

    private static void nothingElse() {
        Due.of("nothing else (nothing can be UNDONE behind back())");
        OneSocket x = Due.told("t50 10 5;c0 9 9;");
        x.says(0, 9, 1, 19);
        x.turn();
        x.turn();
        x.keep(0);
        Due.due("now(7): keep() leaves what may be undone", x.now(7), 2);
        x.says(0, 9, 1, 30);
        x.rate(1, 0);
        Due.type(x, "h2;");
        x.turn();
        Due.due("back(0)", x.back(0), 2);
        Due.due("now(7)", x.now(7), 0);
        Due.due("undo()", x.undo(), -2);
        Due.due("count(4): what was said stays", x.count(4), 2);
        Due.due("liars()", x.liars(), 2);
        Due.due("trace() stays", x.trace(), 11);
        Due.due("count(5): the text stays", x.count(5), 3);
        Due.due("forget()", x.forget(), 2);
        x.back(0);
        Due.due("count(4): what was forgotten does not come back", x.count(4), 0);
        x.turn();
        Due.due("undo() of what came behind back()", x.undo(), 0);
        Due.due("now(0)", x.now(0), 2);
    }

    private static void undoLeavesImages() {
        Due.of("IMAGES 0, 1 keep NOW");
        OneSocket x = Due.told("t50 10 5;");
        x.turn();
        x.keep(0);
        x.undo();
        Due.due("now(0)", x.now(0), 0);
        Due.due("back(0): undo() does not take it", x.back(0), 1);
    }

    private static void readAnew() {
        Due.of("(Read anew: as told, nothing SAID, IMAGES are gone.)");
        OneSocket x = Due.told("t0 10 5;t60 20 6;h2;c0 0 1;d0 1;");
        x.puts(3);
        x.turn();
        x.turn();
        x.turn();
        x.says(1, 0, 1, 5);
        x.keep(0);
        x.keep(1);
        Due.nows("ahead", x, 3, 3, 0, 1, 1, 0, 10, 4);
        Due.anew(x, "t60 20 6;t0 10 5;");
        Due.nows("anew", x, 0, 0, 2, 0, 0, 0, 1, 0);
        Due.counts("anew", x, 2, 1, 0, 0, 0, 0);
        int[][] due = {{60, 20, 6, 0, 0}, {0, 10, 5, 0, 0}};
        for (int k = 0; k < 2; k++) {
            for (int what = 0; what < 5; what++) {
                Due.due("anew: phone(" + k + ", " + what + ")", x.phone(k, what), due[k][what]);
            }
        }
        Due.due("anew: call(0, 0)", x.call(0, 0), -1);
        Due.due("anew: dark(0)", x.dark(0), 0);
        Due.due("anew: could(0, 0)", x.could(0, 0), -1);
        Due.due("anew: liars()", x.liars(), 0);
        Due.due("anew: back(0)", x.back(0), -2);
        Due.due("anew: back(1)", x.back(1), -2);
        Due.due("anew: undo()", x.undo(), -2);
    }

    private static void readAnewAsBefore() {
        Due.of("(Read anew: as told, nothing SAID, IMAGES are gone.)");
        OneSocket x = Due.told("t50 10 5;");
        x.keep(0);
        x.says(0, 1, 1, 1);
        x.turn();
        Due.anew(x, "t50 10 5;");
        Due.levels("the same text", x, 50);
        Due.due("back(0): gone though the text is the same", x.back(0), -2);
        Due.due("forget()", x.forget(), 0);
        Due.due("undo()", x.undo(), -2);
    }

    private static void faultChangesNothing() {
        Due.of("-10 less FAULT: nothing changes.");
        OneSocket x = Due.told("t0 10 5;t60 20 6;h2;c0 0 1;d0 1;");
        x.puts(3);
        x.turn();
        x.says(1, 0, 1, 5);
        x.keep(0);
        Due.type(x, "t1 1 1;h1;d5 5;d6 6;c0 9 9;t2 2 2;t3 3 3;t4 4 4;x");
        Due.due("room()", x.room(), -58);
        Due.nows("behind a fault", x, 1, 3, 1, 1, 1, 0, 10, 2);
        Due.counts("behind a fault", x, 2, 2, 1, 1, 1, 49);
        Due.levels("behind a fault", x, 0, 54, -1);
        Due.due("phone(1, 1)", x.phone(1, 1), 20);
        Due.due("phone(1, 2)", x.phone(1, 2), 6);
        Due.due("call(0, 1)", x.call(0, 1), 0);
        Due.due("dark(1)", x.dark(1), 1);
        Due.due("dark(5)", x.dark(5), 0);
        Due.due("liars()", x.liars(), 1);
        Due.due("undo()", x.undo(), 1);
        Due.due("back(0)", x.back(0), 1);
        Due.due("room(): the text is still there", x.room(), -58);
        Due.due("clear()", x.clear(), 49);
    }

    private static void mended() {
        Due.of("THE TEXT tells all anew, and is empty then");
        OneSocket x = new OneSocket();
        Due.type(x, "t9 1 0");
        Due.due("room(): it ends too early", x.room(), -16);
        Due.type(x, ";");
        Due.due("room(): goes on where it ended", x.room(), 1);
        Due.levels("told in two parts", x, 9);
        Due.due("count(5)", x.count(5), 0);
    }

    public static void main(String[] args) {
        kinds();
        belowNought();
        greatest();
        sixthOne();
        traceOfEach();
        traceGrows();
        rateRefused();
        imagesHoldNow();
        imagesAreTwo();
        backRefused();
        nothingElse();
        undoLeavesImages();
        readAnew();
        readAnewAsBefore();
        faultChangesNothing();
        mended();
        Due.end("EdgeKindTest");
    }
}
