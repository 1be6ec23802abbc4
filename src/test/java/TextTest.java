/** Promises 2 type, 3 clear, 4 room, 5 phone, 6 call, 7 dark, 24 count. */
public final class TextTest {
    private static final String FIVE = "t1 1 0;t2 1 0;t3 1 0;t4 1 0;t5 1 0;";
    private static final String EIGHT = "t1 1 0;c0 1 1;c0 1 1;c0 1 1;c0 1 1;c0 1 1;c0 1 1;c0 1 1;c0 1 1;";

    private static void typed() {
        OneSocket x = new OneSocket();
        Due.due("type(-1)", x.type(-1), -1);
        Due.due("type(256)", x.type(256), -1);
        Due.due("type(min)", x.type(Integer.MIN_VALUE), -1);
        Due.due("type(max)", x.type(Integer.MAX_VALUE), -1);
        Due.due("type(0)", x.type(0), 1);
        Due.due("type(255)", x.type(255), 2);
        for (int i = 3; i <= 200; i++) {
            Due.due("type(32)", x.type(32), i);
        }
        Due.due("type: 201st letter", x.type(32), -3);
        Due.due("type: bad goes first", x.type(256), -1);
        Due.due("count(5)", x.count(5), 200);
        Due.due("clear()", x.clear(), 200);
        Due.due("clear() again", x.clear(), 0);
        Due.due("count(5)", x.count(5), 0);
        Due.due("type(116)", x.type(116), 1);
    }

    private static void fault(String text, int place) {
        OneSocket x = Due.told("t7 8 9;h2;c0 5 6;d1 2;");
        x.puts(1);
        x.turn();
        x.says(0, 1, 1, 1);
        x.keep(1);
        Due.type(x, text);
        String call = "room() of \"" + text + "\"";
        Due.due(call, x.room(), -10 - place);
        Due.due(call + ", again", x.room(), -10 - place);
        Due.due(call + ", count(0)", x.count(0), 1);
        Due.due(call + ", count(1)", x.count(1), 2);
        Due.due(call + ", count(2)", x.count(2), 1);
        Due.due(call + ", count(3)", x.count(3), 1);
        Due.due(call + ", count(4)", x.count(4), 1);
        Due.due(call + ", count(5)", x.count(5), text.length());
        Due.due(call + ", phone(0, 0)", x.phone(0, 0), 15);
        Due.due(call + ", phone(0, 1)", x.phone(0, 1), 8);
        Due.due(call + ", call(0, 1)", x.call(0, 1), 5);
        Due.due(call + ", dark(2)", x.dark(2), 1);
        Due.due(call + ", now(7)", x.now(7), 2);
        Due.due(call + ", back(1)", x.back(1), 1);
    }

    private static void faults() {
        fault("x", 0);
        fault("  x", 2);
        fault(";", 0);
        fault("5", 0);
        fault("t;", 1);
        fault("t1 1 0 0;", 7);
        fault("t1 1;", 4);
        fault("t1 1 0", 6);
        fault("t1 1 0  ", 8);
        fault("t", 1);
        fault("t 1", 3);
        fault("t1 1 0;t", 8);
        fault("t1 1 0 t1 1 0;", 7);
        fault("t1,1 0;", 2);
        fault("T1 1 0;", 0);
        fault("t1\t1 0;", 2);
        fault("t" + (char) 255 + "1 1 0;", 1);
        fault("t" + (char) 0 + "1 1 0;", 1);
        fault("t101 1 0;", 1);
        fault("t99999999999999999999 1 0;", 1);
        fault("t4294967297 1 0;", 1);
        fault("t00 1 0;", 1);
        fault("t07 1 0;", 1);
        fault("t1 0 0;", 3);
        fault("t1 31 0;", 3);
        fault("t1 1 10;", 5);
        fault("t1 1 0;;", 7);
        fault(FIVE + "t1 1 0;", FIVE.length());
        fault(FIVE + "t x", FIVE.length());
        fault("h0;", 1);
        fault("h3;", 1);
        fault("h1;h1;", 3);
        fault("h1;h;", 3);
        fault("h2 2;", 3);
        fault("c0 1 1;", 1);
        fault("c0 1 1;t1 1 0;", 1);
        fault("t1 1 0;c1 1 1;", 8);
        fault("t1 1 0;c0 61 1;", 10);
        fault("t1 1 0;c0 1 0;", 12);
        fault("t1 1 0;c0 1 51;", 12);
        fault("t1 1 0;c0 1;", 11);
        fault(EIGHT + "c0 1 1;", EIGHT.length());
        fault("d61 61;", 1);
        fault("d0 61;", 3);
        fault("d5 4;", 3);
        fault("d5;", 2);
        fault("d1 1;d2 2;d3 3;", 10);
        fault("t1 1 0; x ; y", 8);
        fault("; x", 0);
    }

    private static void reads() {
        OneSocket x = Due.told("  t 100   30 9 ; t0 1 0;h2;c1 60 50;c0 0 1;d0 60;d7 7;  ");
        Due.due("count(0)", x.count(0), 2);
        Due.due("count(1)", x.count(1), 2);
        Due.due("count(2)", x.count(2), 2);
        Due.due("count(3)", x.count(3), 2);
        Due.due("count(4)", x.count(4), 0);
        Due.due("count(5)", x.count(5), 0);
        Due.due("count(6)", x.count(6), -1);
        Due.due("count(-1)", x.count(-1), -1);
        int[][] phones = {{100, 30, 9, 0, 0}, {0, 1, 0, 0, 0}};
        for (int k = 0; k < 2; k++) {
            for (int what = 0; what < 5; what++) {
                Due.due("phone(" + k + ", " + what + ")", x.phone(k, what), phones[k][what]);
            }
        }
        Due.due("phone(2, 0)", x.phone(2, 0), -1);
        Due.due("phone(-1, 0)", x.phone(-1, 0), -1);
        Due.due("phone(0, -1)", x.phone(0, -1), -1);
        Due.due("phone(0, 5)", x.phone(0, 5), -1);
        int[][] calls = {{1, 60, 50}, {0, 0, 1}};
        for (int i = 0; i < 2; i++) {
            for (int what = 0; what < 3; what++) {
                Due.due("call(" + i + ", " + what + ")", x.call(i, what), calls[i][what]);
            }
        }
        Due.due("call(2, 0)", x.call(2, 0), -1);
        Due.due("call(-1, 0)", x.call(-1, 0), -1);
        Due.due("call(0, 3)", x.call(0, 3), -1);
        Due.due("call(0, -1)", x.call(0, -1), -1);
        Due.told(FIVE);
        Due.told(EIGHT);
        Due.told("");
        Due.told("   ");
    }

    private static void dark() {
        OneSocket x = Due.told("d3 5;d60 60;");
        for (int t = 0; t <= 160; t++) {
            Due.due("dark(" + t + ")", x.dark(t), t >= 3 && t <= 5 || t == 60 ? 1 : 0);
        }
        Due.due("dark(161)", x.dark(161), -1);
        Due.due("dark(-1)", x.dark(-1), -1);
    }

    private static void toldAnew() {
        OneSocket x = Due.told("t50 10 1;t60 5 2;h2;c1 4 9;d9 9;");
        x.puts(3);
        x.turn();
        x.says(0, 1, 1, 11);
        x.keep(0);
        x.rate(0, 0);
        Due.type(x, "t40 3 4;");
        Due.due("room() anew", x.room(), 1);
        int[] counts = {1, 1, 0, 0, 0, 0};
        for (int what = 0; what < counts.length; what++) {
            Due.due("anew: count(" + what + ")", x.count(what), counts[what]);
        }
        int[] phone = {40, 3, 4, 0, 0};
        for (int what = 0; what < phone.length; what++) {
            Due.due("anew: phone(0, " + what + ")", x.phone(0, what), phone[what]);
        }
        int[] nows = {0, 0, 0, 0, 0, 0, -9, 0};
        for (int what = 0; what < nows.length; what++) {
            Due.due("anew: now(" + what + ")", x.now(what), nows[what]);
        }
        Due.due("anew: dark(9)", x.dark(9), 0);
        Due.due("anew: back(0)", x.back(0), -2);
        Due.due("anew: undo()", x.undo(), -2);
        Due.due("anew: trace()", x.trace(), 1);
        Due.due("anew: room() of nothing", x.room(), 0);
        Due.due("anew: count(0) of nothing", x.count(0), 0);
    }

    private static void missedIsAnew() {
        OneSocket x = Due.told("t5 10 1;c0 0 9;");
        x.turn();
        Due.due("now(3)", x.now(3), 1);
        Due.type(x, "t5 10 1;");
        Due.due("room()", x.room(), 1);
        Due.due("anew: now(3)", x.now(3), 0);
    }

    public static void main(String[] args) {
        typed();
        faults();
        reads();
        dark();
        toldAnew();
        missedIsAnew();
        Due.end("TextTest");
    }
}
