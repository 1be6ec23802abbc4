/** Promises 21 rate, 22 keep, 23 back, 25 trace. */
public final class KindTest {
    private static void rates() {
        OneSocket x = Due.told("t50 10 5;t40 10 3;t30 10 9;c1 9 1;c1 9 1;c0 9 1;");
        x.puts(2);
        x.turn();
        x.turn();
        long[] traces = {1, 11, 101, 1011, 10101, 100001};
        int[] rates = {60, 62, 57, 124, 58, 62};
        long trace = 0;
        for (int kind = 0; kind < 6; kind++) {
            Due.due("rate(" + kind + ", 1)", x.rate(kind, 1), rates[kind]);
            trace += traces[kind];
            Due.due("trace()", x.trace(), trace);
        }
        Due.due("rate(2, 2): 12 less 9", x.rate(2, 2), 3);
        Due.due("rate(4, 2)", x.rate(4, 2), 5);
        Due.due("rate(1, 2): no calls", x.rate(1, 2), 12);
        x.turn();
        x.turn();
        Due.due("rate(2, 2): below 0", x.rate(2, 2), -9);
        trace = x.trace();
        Due.due("rate(6, 0)", x.rate(6, 0), -1000000);
        Due.due("rate(-1, 0)", x.rate(-1, 0), -1000000);
        Due.due("rate(0, 3)", x.rate(0, 3), -1000000);
        Due.due("rate(0, -1)", x.rate(0, -1), -1000000);
        Due.due("trace() behind refused ones", x.trace(), trace);
        x.undo();
        x.keep(0);
        x.back(0);
        Due.due("trace() is no part of now", x.trace(), trace);
    }

    private static void images() {
        OneSocket x = Due.told("t50 10 5;t8 10 3;c1 0 9;");
        Due.due("back(0): none was kept", x.back(0), -2);
        x.puts(1);
        x.turn();
        x.turn();
        Due.due("keep(0)", x.keep(0), 2);
        Due.due("now(7): keep() takes nothing from it", x.now(7), 3);
        Due.due("back(1): none was kept", x.back(1), -2);
        Due.due("now(7): refused back()", x.now(7), 3);
        x.puts(2);
        x.lends(0, 20);
        x.turn();
        Due.due("keep(1)", x.keep(1), 3);
        x.says(0, 1, 1, 1);
        Due.due("back(0)", x.back(0), 2);
        Due.levels("image 0", x, 70, 2);
        int[] nows = {2, 1, 0, 1, 1, 2, 1, 0};
        for (int what = 0; what < nows.length; what++) {
            Due.due("image 0: now(" + what + ")", x.now(what), nows[what]);
        }
        Due.due("image 0: phone(0, 3)", x.phone(0, 3), 2);
        Due.due("undo() behind back()", x.undo(), -2);
        Due.due("what was said stays", x.count(4), 1);
        Due.due("back(1)", x.back(1), 3);
        Due.levels("image 1", x, 45, 12);
        Due.due("image 1: now(1)", x.now(1), 2);
        Due.due("image 1: now(4)", x.now(4), 2);
        Due.due("back(0): an image stays kept", x.back(0), 2);
        x.turn();
        Due.due("keep(0) over an older one", x.keep(0), 3);
        Due.due("undo()", x.undo(), 0);
        Due.due("now(0)", x.now(0), 2);
        Due.due("back(0)", x.back(0), 3);
    }

    private static void wrongImages() {
        OneSocket x = Due.told("t50 10 5;");
        Due.due("keep(-1)", x.keep(-1), -1);
        Due.due("keep(2)", x.keep(2), -1);
        Due.due("back(-1)", x.back(-1), -1);
        Due.due("back(2)", x.back(2), -1);
        Due.due("back(1)", x.back(1), -2);
    }

    public static void main(String[] args) {
        rates();
        images();
        wrongImages();
        Due.end("KindTest");
    }
}
