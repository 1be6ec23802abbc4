import java.util.ArrayList;
import java.util.LinkedHashMap;
import java.util.List;
import java.util.Map;
import java.util.function.Supplier;
import java.util.function.ToLongFunction;

/**
 * "Refused, and nothing changes, the first of these: BAD, STATE, FULL": twins go the same way, one of them is asked
 * one call more that must leave no trace, and all that can be seen of both must be alike, what can be undone and
 * the images too.
 */
public final class RefusedTest {
    private static final int MOST_CALLS = 512;
    private static final int LOW = Integer.MIN_VALUE;
    private static final int HIGH = Integer.MAX_VALUE;
    private static final String ROOM = "t50 10 5;t80 7 3;t4 1 9;h2;c0 1 20;c2 0 5;d2 3;";

    private static int typed(OneSocket x, String text) {
        for (int i = 0; i < text.length(); i++) {
            x.type(text.charAt(i));
        }
        return text.length();
    }

    private static OneSocket told() {
        OneSocket x = new OneSocket();
        typed(x, ROOM);
        x.room();
        return x;
    }

    private static OneSocket underWay() {
        OneSocket x = told();
        x.puts(3);
        x.turn();
        x.keep(0);
        x.lends(1, 9);
        x.says(0, 9, 3, 39);
        x.says(1, 9, 1, 30);
        x.rate(3, 0);
        typed(x, "t9 1 0;h1;x");
        return x;
    }

    private static OneSocket fullOfAll() {
        OneSocket x = underWay();
        for (int i = 0; i < 9; i++) {
            x.puts(1 << i % 3);
            x.turn();
        }
        x.keep(1);
        for (int i = 0; i < 4; i++) {
            x.says(2, i, 1 + i, 2 * i);
        }
        return x;
    }

    private static OneSocket atTheEnd() {
        OneSocket x = told();
        x.puts(1);
        for (int i = 0; i < 99; i++) {
            x.turn();
        }
        typed(x, "d");
        return x;
    }

    private static OneSocket withoutLetters() {
        OneSocket x = new OneSocket();
        typed(x, "t9 1 0;" + " ".repeat(192) + "t");
        return x;
    }

    private static Map<String, Supplier<OneSocket>> states() {
        Map<String, Supplier<OneSocket>> all = new LinkedHashMap<>();
        all.put("new", OneSocket::new);
        all.put("told", RefusedTest::told);
        all.put("under way", RefusedTest::underWay);
        all.put("full of all", RefusedTest::fullOfAll);
        all.put("at the end", RefusedTest::atTheEnd);
        all.put("no room for letters", RefusedTest::withoutLetters);
        return all;
    }

    /** Calls that are BAD whatever the state is, though STATE or FULL may hold of them, too. */
    private static Map<String, ToLongFunction<OneSocket>> bad() {
        Map<String, ToLongFunction<OneSocket>> all = new LinkedHashMap<>();
        for (int n : new int[] {-1, 256, LOW, HIGH}) {
            all.put("type(" + n + ")", x -> x.type(n));
        }
        for (int k : new int[] {-1, 5, LOW, HIGH}) {
            all.put("phone(" + k + ", 0)", x -> x.phone(k, 0));
            all.put("lends(" + k + ", 1)", x -> x.lends(k, 1));
            all.put("fullBy(" + k + ", 0)", x -> x.fullBy(k, 0));
            all.put("latest(" + k + ", 60)", x -> x.latest(k, 60));
            all.put("says(" + k + ", 0, 1, 0)", x -> x.says(k, 0, 1, 0));
            all.put("odds(" + k + ", 0, 0, 0, 0)", x -> x.odds(k, 0, 0, 0, 0));
            all.put("phone(0, " + k + ")", x -> x.phone(0, k));
        }
        for (int n : new int[] {-1, 8, LOW, HIGH}) {
            all.put("call(" + n + ", 0)", x -> x.call(n, 0));
            all.put("call(0, " + n + ")", x -> x.call(0, n));
            all.put("now(" + n + ")", x -> x.now(n));
        }
        for (int n : new int[] {-1, 161, LOW, HIGH}) {
            all.put("dark(" + n + ")", x -> x.dark(n));
        }
        for (int n : new int[] {-1, 7, 8, 32, LOW, HIGH}) {
            all.put("puts(" + n + ")", x -> x.puts(n));
        }
        for (int n : new int[] {-1, 0, 51, LOW, HIGH}) {
            all.put("lends(0, " + n + ")", x -> x.lends(0, n));
        }
        for (int n : new int[] {-1, 5, LOW, HIGH}) {
            all.put("plan(" + n + ", 0)", x -> x.plan(n, 0));
        }
        for (int n : new int[] {-1, 7, LOW, HIGH}) {
            all.put("plan(4, " + n + ")", x -> x.plan(4, n));
        }
        badOfLaterCalls(all);
        return all;
    }

    private static void badOfLaterCalls(Map<String, ToLongFunction<OneSocket>> all) {
        for (int n : new int[] {-1, 101, LOW, HIGH}) {
            all.put("fullBy(0, " + n + ")", x -> x.fullBy(0, n));
            all.put("says(0, " + n + ", 1, 0)", x -> x.says(0, n, 1, 0));
            all.put("says(0, 0, 1, " + n + ")", x -> x.says(0, 0, 1, n));
            all.put("odds(0, " + n + ", 0, 0, 0)", x -> x.odds(0, n, 0, 0, 0));
        }
        for (int n : new int[] {-1, 61, LOW, HIGH}) {
            all.put("latest(0, " + n + ")", x -> x.latest(0, n));
        }
        for (int n : new int[] {-1, 0, 21, LOW, HIGH}) {
            all.put("says(0, 0, " + n + ", 0)", x -> x.says(0, 0, n, 0));
        }
        for (int n : new int[] {-1, 6, LOW, HIGH}) {
            all.put("could(" + n + ", 0)", x -> x.could(n, 0));
            all.put("could(0, " + n + ")", x -> x.could(0, n));
            all.put("count(" + n + ")", x -> x.count(n));
        }
        for (int n : new int[] {-1, 11, LOW, HIGH}) {
            all.put("odds(0, 0, " + n + ", 0, 0)", x -> x.odds(0, 0, n, 0, 0));
            all.put("odds(0, 0, 0, " + n + ", 0)", x -> x.odds(0, 0, 0, n, 0));
            all.put("odds(0, 0, 0, 0, " + n + ")", x -> x.odds(0, 0, 0, 0, n));
        }
        for (int n : new int[] {-1, 2, LOW, HIGH}) {
            all.put("keep(" + n + ")", x -> x.keep(n));
            all.put("back(" + n + ")", x -> x.back(n));
        }
    }

    private static Map<String, ToLongFunction<OneSocket>> no() {
        Map<String, ToLongFunction<OneSocket>> all = new LinkedHashMap<>();
        for (int n : new int[] {-1, 6, LOW, HIGH}) {
            all.put("rate(" + n + ", 0)", x -> x.rate(n, 0));
            all.put("rate(0, " + n + ")", x -> x.rate(0, n));
        }
        return all;
    }

    /** Calls that only ask. */
    private static Map<String, ToLongFunction<OneSocket>> asking() {
        Map<String, ToLongFunction<OneSocket>> all = new LinkedHashMap<>();
        all.put("phone(0, 0)", x -> x.phone(0, 0));
        all.put("call(0, 0)", x -> x.call(0, 0));
        all.put("dark(2)", x -> x.dark(2));
        for (int n = 0; n < 8; n++) {
            int what = n;
            all.put("now(" + what + ")", x -> x.now(what));
        }
        for (int n = 0; n <= 4; n++) {
            int turns = n;
            all.put("plan(" + turns + ", 0)", x -> x.plan(turns, 0));
            all.put("plan(" + turns + ", 4)", x -> x.plan(turns, 4));
        }
        all.put("fullBy(0, 100)", x -> x.fullBy(0, 100));
        all.put("latest(0, 60)", x -> x.latest(0, 60));
        all.put("could(0, 0)", x -> x.could(0, 0));
        all.put("liars()", OneSocket::liars);
        all.put("odds(0, 50, 3, 9, 0)", x -> x.odds(0, 50, 3, 9, 0));
        all.put("count(4)", x -> x.count(4));
        all.put("trace()", OneSocket::trace);
        return all;
    }

    /** All that can be seen; what can be undone and the images by going there. */
    private static List<Long> seen(OneSocket x) {
        List<Long> all = new ArrayList<>();
        seenNow(x, all);
        for (int what = 0; what < 6; what++) {
            all.add((long) x.count(what));
        }
        all.add(x.trace());
        all.add((long) x.liars());
        for (int line = 0; line < 6; line++) {
            all.add((long) x.could(line, 0));
            all.add((long) x.could(line, 1));
        }
        for (int i = 0; i < 9; i++) {
            all.add((long) x.call(i % 3, i / 3));
        }
        for (int t = 0; t < 5; t++) {
            all.add((long) x.dark(t));
        }
        for (int what = 0; what < 7; what++) {
            all.add((long) x.plan(2, what));
        }
        for (int i = 0; i < 11; i++) {
            all.add((long) x.undo());
            seenLevels(x, all);
        }
        for (int image = 0; image < 2; image++) {
            all.add((long) x.back(image));
            seenNow(x, all);
        }
        all.add((long) x.room());
        all.add((long) x.clear());
        return all;
    }

    private static void seenNow(OneSocket x, List<Long> all) {
        for (int what = 0; what < 8; what++) {
            all.add((long) x.now(what));
        }
        for (int k = 0; k < 3; k++) {
            for (int what = 0; what < 5; what++) {
                all.add((long) x.phone(k, what));
            }
        }
    }

    private static void seenLevels(OneSocket x, List<Long> all) {
        all.add((long) x.now(0));
        all.add((long) x.now(1));
        for (int k = 0; k < 3; k++) {
            all.add((long) x.phone(k, 0));
        }
    }

    private static void changesNothing(String state, Supplier<OneSocket> made, String call,
            ToLongFunction<OneSocket> asked) {
        OneSocket spoken = made.get();
        asked.applyAsLong(spoken);
        List<Long> one = seen(spoken);
        List<Long> other = seen(made.get());
        Due.due(state + ": all that is seen behind " + call + " is as without it", one.equals(other) ? 1 : 0, 1);
        Due.due(state + ": calls are at most 512", Math.max(MOST_CALLS, 260 + one.size()), MOST_CALLS);
    }

    private static void all(Map<String, ToLongFunction<OneSocket>> calls, Long due) {
        states().forEach((state, made) -> calls.forEach((call, asked) -> {
            if (due != null) {
                Due.due(state + ": " + call, asked.applyAsLong(made.get()), due);
            }
            changesNothing(state, made, call, asked);
        }));
    }

    private static void one(String state, String call, ToLongFunction<OneSocket> asked, long due) {
        Supplier<OneSocket> made = states().get(state);
        Due.due(state + ": " + call, asked.applyAsLong(made.get()), due);
        changesNothing(state, made, call, asked);
    }

    private static void stateAndFull() {
        Due.of("STATE (as told), FULL.");
        one("new", "undo()", OneSocket::undo, -2);
        one("told", "undo()", OneSocket::undo, -2);
        one("new", "back(0)", x -> x.back(0), -2);
        one("under way", "back(1)", x -> x.back(1), -2);
        one("told", "lends(2, 5)", x -> x.lends(2, 5), -2);
        one("under way", "lends(2, 1)", x -> x.lends(2, 1), -2);
        one("at the end", "turn()", OneSocket::turn, -2);
        one("full of all", "says(0, 0, 1, 0)", x -> x.says(0, 0, 1, 0), -3);
        one("no room for letters", "type(32)", x -> x.type(32), -3);
        one("no room for letters", "type(59)", x -> x.type(59), -3);
    }

    private static void faults() {
        Due.of("-10 less FAULT: nothing changes.");
        one("under way", "room()", OneSocket::room, -20);
        one("full of all", "room()", OneSocket::room, -20);
        one("at the end", "room()", OneSocket::room, -11);
        one("no room for letters", "room()", OneSocket::room, -210);
    }

    public static void main(String[] args) {
        Due.of("Refused, and nothing changes, the first of these: BAD (a number is not as told,");
        all(bad(), -1L);
        Due.of("RATE. NO: BAD.");
        all(no(), -1000000L);
        stateAndFull();
        faults();
        Due.of("(From NOW on; nothing is changed.)");
        all(asking(), null);
        Due.end("RefusedTest");
    }
}
