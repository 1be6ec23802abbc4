/** Promises 13 plan, 14 fullBy, 15 latest. */
public final class PlanTest {
    private static void plan(String text, OneSocket x, int n, int... due) {
        for (int what = 0; what < due.length; what++) {
            Due.due(text + ": plan(" + n + ", " + what + ")", x.plan(n, what), due[what]);
        }
    }

    private static void plans() {
        OneSocket x = Due.told("t10 5 5;t10 5 5;");
        plan("none goes out in one turn", x, 1, 0, -5, -5, -5, 0, 0, 0);
        plan("by turns, lest one goes out", x, 2, 1, 2, -5, -5, 0, 0, 2);
        plan("of several the first by sets", x, 3, 0, 1, 2, -5, 0, 0, 2);
        plan("no turn", x, 0, -5, -5, -5, -5, 0, 0, 0);
        x = Due.told("t5 5 5;t5 5 5;");
        plan("one must go out", x, 1, 1, -5, -5, -5, 0, 1, 1);
        x = Due.told("t10 5 5;t10 5 5;h2;");
        plan("both at once is got up once", x, 2, 0, 3, -5, -5, 0, 0, 1);
        x.puts(3);
        plan("what is on it stays", x, 4, 3, 3, 3, 3, 0, 0, 0);
        x = Due.told("t0 5 5;t0 1 1;");
        plan("out already", x, 0, -5, -5, -5, -5, 0, 2, 0);
        plan("one of them can be filled", x, 2, 0, 1, -5, -5, 0, 1, 1);
    }

    private static void callsGoAheadOfOut() {
        OneSocket x = Due.told("t15 5 0;t1 1 1;c0 1 20;");
        plan("none missed and one out, not one missed and none out", x, 2, 1, 1, -5, -5, 0, 1, 1);
        x = Due.told("t15 5 0;t1 1 1;c0 1 20;c1 3 1;");
        plan("both calls are held out for", x, 4, 1, 1, 2, 2, 0, 0, 2);
        x = Due.told("t15 5 0;t15 5 0;c0 1 20;c1 1 20;");
        plan("one call is missed", x, 2, 1, 1, -5, -5, 1, 0, 1);
    }

    private static void wrong() {
        OneSocket x = Due.told("t10 5 5;");
        Due.due("plan(-1, 0)", x.plan(-1, 0), -1);
        Due.due("plan(5, 0)", x.plan(5, 0), -1);
        Due.due("plan(0, -1)", x.plan(0, -1), -1);
        Due.due("plan(0, 7)", x.plan(0, 7), -1);
        Due.due("plan(4, 7)", x.plan(4, 7), -1);
        Due.due("plan(max, 0)", x.plan(Integer.MAX_VALUE, 0), -1);
    }

    private static void nothingIsChanged() {
        OneSocket x = Due.told("t10 5 5;t30 5 5;c0 0 9;");
        x.puts(2);
        for (int what = 0; what < 7; what++) {
            x.plan(4, what);
        }
        x.fullBy(0, 100);
        x.latest(0, 60);
        x.odds(0, 50, 5, 9, 0);
        int[] nows = {0, 2, 0, 0, 1, 0, 10, 1};
        for (int what = 0; what < nows.length; what++) {
            Due.due("now(" + what + ") behind plans", x.now(what), nows[what]);
        }
        Due.levels("behind plans", x, 10, 30);
        Due.due("phone(1, 3) behind plans", x.phone(1, 3), 0);
    }

    private static void fullBy() {
        OneSocket x = Due.told("t70 7 9;t0 1 0;t40 10 3;c0 1 40;c2 0 50;d2 3;");
        Due.due("fullBy(0, 0)", x.fullBy(0, 0), 0);
        Due.due("fullBy(0, 70)", x.fullBy(0, 70), 0);
        Due.due("fullBy(0, 77)", x.fullBy(0, 77), 1);
        // 77, call of 40: 37, 44; dark 35, 26; then 33, 40, 47, 54, 61, 68, 75, 82, 85
        Due.due("fullBy(0, 78)", x.fullBy(0, 78), 12);
        Due.due("fullBy(0, 85)", x.fullBy(0, 85), 13);
        Due.due("fullBy(1, 58)", x.fullBy(1, 58), 60);
        Due.due("fullBy(1, 59)", x.fullBy(1, 59), -9);
        Due.due("fullBy(2, 60): the call is missed", x.fullBy(2, 60), 2);
        Due.due("fullBy(2, 61)", x.fullBy(2, 61), 5);
        Due.due("fullBy(2, 100)", x.fullBy(2, 100), 11);
        Due.due("fullBy(2, 101)", x.fullBy(2, 101), -1);
        Due.due("fullBy(2, -1)", x.fullBy(2, -1), -1);
        Due.due("fullBy(3, 0)", x.fullBy(3, 0), -1);
        Due.due("fullBy(-1, 0)", x.fullBy(-1, 0), -1);
        x.turn();
        Due.due("fullBy(1, 1) from turn 1", x.fullBy(1, 1), 1);
        Due.due("fullBy(1, 2) from turn 1", x.fullBy(1, 2), 4);
    }

    private static void latest() {
        OneSocket x = Due.told("t20 10 2;t50 5 9;t40 1 0;c0 5 40;c1 3 20;c2 4 50;");
        // On from 2: 18, 16, 26, 36, 46: it holds out; from 3: 18, 16, 14, 24, 34: not.
        Due.due("latest(0, 5)", x.latest(0, 5), 2);
        Due.due("latest(0, 4)", x.latest(0, 4), 5);
        Due.due("latest(0, 60)", x.latest(0, 60), 2);
        Due.due("latest(0, 0)", x.latest(0, 0), 1);
        Due.due("latest(1, 3)", x.latest(1, 3), 4);
        Due.due("latest(2, 3)", x.latest(2, 3), 4);
        Due.due("latest(2, 4)", x.latest(2, 4), -9);
        x = Due.told("t20 10 2;c0 5 40;");
        x.turn();
        x.turn();
        Due.due("latest(0, 5) from turn 2", x.latest(0, 5), 2);
        x.turn();
        Due.due("latest(0, 5) from turn 3", x.latest(0, 5), -9);
        Due.due("latest(0, 3) from turn 3", x.latest(0, 3), 4);
        Due.due("latest(0, 2): gone by", x.latest(0, 2), -1);
        Due.due("latest(0, 61)", x.latest(0, 61), -1);
        Due.due("latest(1, 5)", x.latest(1, 5), -1);
        Due.due("latest(-1, 5)", x.latest(-1, 5), -1);
        Due.due("latest(0, -1)", x.latest(0, -1), -1);
    }

    private static void latestInTheDark() {
        OneSocket x = Due.told("t20 10 2;c0 3 20;c0 0 1;d1 2;");
        // 19 is left at 0; on at 0: 29, 27, 25.
        Due.due("latest(0, 3)", x.latest(0, 3), 0);
        x = Due.told("t10 5 2;t10 5 2;c1 0 50;c0 2 10;");
        Due.due("latest(0, 2): others are not asked", x.latest(0, 2), 1);
        Due.due("latest(1, 2)", x.latest(1, 2), -9);
    }

    public static void main(String[] args) {
        plans();
        callsGoAheadOfOut();
        wrong();
        nothingIsChanged();
        fullBy();
        latest();
        latestInTheDark();
        Due.end("PlanTest");
    }
}
