import java.util.Random;

/** Runs of calls, told by a fixed seed, on OneSocket and on the model: both must answer alike. */
public final class ModelTest {
    private static final int RUNS = 1500;
    private static final int CALLS = 512;
    private static final int[] FAR = {Integer.MIN_VALUE, -1000, 1000, 65536, Integer.MAX_VALUE};

    private final Random random;
    private final OneSocket x = new OneSocket();
    private final Model model = new Model();
    private final String name;
    private int calls = 0;

    private ModelTest(int run) {
        random = new Random(run);
        name = "run " + run;
    }

    /** A number from low to high, at times just beyond or far from it. */
    private int about(int low, int high) {
        int chance = random.nextInt(60);
        if (chance == 0) {
            return FAR[random.nextInt(FAR.length)];
        }
        if (chance == 1) {
            return low - 1;
        }
        if (chance == 2) {
            return high + 1;
        }
        return chance < 6 ? low : chance < 9 ? high : within(low, high);
    }

    private int within(int low, int high) {
        return low + random.nextInt(Math.max(1, high - low + 1));
    }

    private int some() {
        return about(0, Math.max(0, x.count(0) - 1));
    }

    private String someText() {
        StringBuilder s = new StringBuilder();
        int phones = within(0, 5);
        for (int i = 0; i < phones; i++) {
            s.append(" t ").append(within(0, random.nextInt(3) == 0 ? 15 : 100)).append(' ').append(within(1, 30))
                    .append(' ').append(within(0, 9)).append(';');
        }
        if (random.nextInt(2) == 0) {
            s.append("h").append(within(1, 2)).append(" ;");
        }
        int most = random.nextInt(3) == 0 ? 60 : 6;
        for (int i = within(0, 8); i > 0 && phones > 0; i--) {
            s.append('c').append(within(0, phones - 1)).append(' ').append(within(0, most)).append(' ')
                    .append(within(1, 50)).append(';');
        }
        for (int i = within(0, 2); i > 0; i--) {
            int a = within(0, most);
            s.append("d").append(a).append(' ').append(within(a, random.nextInt(3) == 0 ? 60 : most)).append(";");
        }
        return s.toString();
    }

    private String spoilt(String text) {
        StringBuilder s = new StringBuilder(text);
        String letters = "thcd; 0123456789x" + (char) 0 + (char) 255;
        for (int i = within(1, 3); i > 0 && s.length() > 0; i--) {
            int at = random.nextInt(s.length());
            switch (random.nextInt(4)) {
                case 0 -> s.deleteCharAt(at);
                case 1 -> s.insert(at, letters.charAt(random.nextInt(letters.length())));
                case 2 -> s.setCharAt(at, letters.charAt(random.nextInt(letters.length())));
                default -> s.setLength(at);
            }
        }
        return s.toString();
    }

    private void due(String call, long got, long want) {
        calls++;
        Due.due(name + ", call " + calls + ": " + call, got, want);
    }

    private void tell(String text) {
        for (int i = 0; i < text.length() && calls < CALLS; i++) {
            int c = text.charAt(i);
            due("type(" + c + ")", x.type(c), model.type(c));
        }
        due("room()", x.room(), model.room());
    }

    private void anyCall() {
        int a = some();
        int chance = random.nextInt(64);
        if (chance < 10) {
            due("turn()", x.turn(), model.turn());
        } else if (chance < 17) {
            int set = random.nextInt(10) == 0 ? about(-40, 40) : 1 << within(0, 4) | (random.nextBoolean() ? 1 : 0);
            due("puts(" + set + ")", x.puts(set), model.puts(set));
        } else if (chance < 20) {
            int n = about(1, 50);
            due("lends(" + a + ", " + n + ")", x.lends(a, n), model.lends(a, n));
        } else if (chance < 23) {
            due("undo()", x.undo(), model.undo());
        } else if (chance < 42) {
            readCall(a);
        } else if (chance < 56) {
            planCall(a);
        } else {
            lateCall(a);
        }
    }

    private void readCall(int a) {
        int b = about(0, 7);
        switch (random.nextInt(5)) {
            case 0 -> due("phone(" + a + ", " + b + ")", x.phone(a, b), model.phone(a, b));
            case 1 -> {
                int i = about(0, 7);
                due("call(" + i + ", " + b + ")", x.call(i, b), model.call(i, b));
            }
            case 2 -> {
                int t = about(0, 160);
                due("dark(" + t + ")", x.dark(t), model.dark(t));
            }
            case 3 -> due("count(" + b + ")", x.count(b), model.count(b));
            default -> due("now(" + b + ")", x.now(b), model.now(b));
        }
    }

    private void planCall(int a) {
        switch (random.nextInt(7)) {
            case 0 -> {
                int n = random.nextInt(8) == 0 ? about(0, 4) : within(0, 3);
                int what = about(0, 6);
                due("plan(" + n + ", " + what + ")", x.plan(n, what), model.plan(n, what));
            }
            case 1 -> {
                int v = about(0, 100);
                due("fullBy(" + a + ", " + v + ")", x.fullBy(a, v), model.fullBy(a, v));
            }
            case 2 -> {
                int t = about(x.now(0), 60);
                due("latest(" + a + ", " + t + ")", x.latest(a, t), model.latest(a, t));
            }
            case 3 -> {
                int n = about(0, 100);
                int t = about(1, 20);
                int v = about(0, 100);
                due("says(" + a + ", " + n + ", " + t + ", " + v + ")", x.says(a, n, t, v), model.says(a, n, t, v));
            }
            case 4 -> {
                int i = about(0, 5);
                int what = about(0, 2);
                due("could(" + i + ", " + what + ")", x.could(i, what), model.could(i, what));
            }
            case 5 -> due("liars()", x.liars(), model.liars());
            default -> {
                int v = about(0, 100);
                int p = about(0, 10);
                int n = about(0, 9);
                int what = about(0, 1);
                due("odds(" + a + ", " + v + ", " + p + ", " + n + ", " + what + ")",
                        x.odds(a, v, p, n, what), model.odds(a, v, p, n, what));
            }
        }
    }

    private void lateCall(int a) {
        int b = about(0, 1);
        switch (random.nextInt(8)) {
            case 0, 1, 2 -> {
                int kind = about(0, 5);
                due("rate(" + kind + ", " + a + ")", x.rate(kind, a), model.rate(kind, a));
                due("trace()", x.trace(), model.trace());
            }
            case 3, 4 -> due("keep(" + b + ")", x.keep(b), model.keep(b));
            case 5 -> due("back(" + b + ")", x.back(b), model.back(b));
            case 6 -> due("forget()", x.forget(), model.forget());
            default -> {
                if (random.nextInt(4) == 0) {
                    due("clear()", x.clear(), model.clear());
                    tell(random.nextInt(3) == 0 ? spoilt(someText()) : someText());
                } else {
                    int letter = about(0, 255);
                    due("type(" + letter + ")", x.type(letter), model.type(letter));
                }
            }
        }
    }

    private void go() {
        if (random.nextInt(3) == 0) {
            tell(spoilt(someText()));
            due("clear()", x.clear(), model.clear());
        }
        tell(someText());
        while (calls < CALLS - 2) {
            anyCall();
        }
    }

    public static void main(String[] args) {
        for (int run = 1; run <= RUNS; run++) {
            new ModelTest(run).go();
        }
        Due.end("ModelTest");
    }
}
