/** Promises 16 says, 17 forget, 18 could, 19 liars, 20 odds. */
public final class SaidTest {
    private static void says() {
        OneSocket x = Due.told("t50 10 5;t50 1 5;");
        Due.due("says(2, 0, 1, 0)", x.says(2, 0, 1, 0), -1);
        Due.due("says(-1, 0, 1, 0)", x.says(-1, 0, 1, 0), -1);
        Due.due("says(0, -1, 1, 0)", x.says(0, -1, 1, 0), -1);
        Due.due("says(0, 101, 1, 0)", x.says(0, 101, 1, 0), -1);
        Due.due("says(0, 0, 0, 0)", x.says(0, 0, 0, 0), -1);
        Due.due("says(0, 0, 21, 0)", x.says(0, 0, 21, 0), -1);
        Due.due("says(0, 0, 1, -1)", x.says(0, 0, 1, -1), -1);
        Due.due("says(0, 0, 1, 101)", x.says(0, 0, 1, 101), -1);
        Due.due("count(4)", x.count(4), 0);
        for (int i = 1; i <= 6; i++) {
            Due.due("says(0, 100, 20, 100)", x.says(0, 100, 20, 100), i);
        }
        Due.due("says(): a seventh", x.says(0, 0, 1, 0), -3);
        Due.due("says(): bad goes first", x.says(0, 0, 0, 0), -1);
        Due.due("count(4)", x.count(4), 6);
        Due.due("forget()", x.forget(), 6);
        Due.due("forget() again", x.forget(), 0);
        Due.due("count(4)", x.count(4), 0);
        Due.due("could(0, 0) of nothing", x.could(0, 0), -1);
        Due.due("liars() of nothing", x.liars(), 0);
        Due.due("says()", x.says(1, 100, 1, 0), 1);
    }

    private static void could(OneSocket x, int line, int many, int least, int greatest) {
        Due.due("could(" + line + ", 0)", x.could(line, 0), many);
        Due.due("could(" + line + ", 1)", x.could(line, 1), least);
        Due.due("could(" + line + ", 2)", x.could(line, 2), greatest);
    }

    private static void couldAndLiars() {
        OneSocket x = Due.told("t50 30 9;t50 1 5;c0 0 50;d0 60;");
        x.says(0, 9, 1, 60);
        x.says(0, 65, 1, 95);
        x.says(0, 65, 1, 100);
        x.says(0, 0, 20, 99);
        x.says(1, 0, 20, 20);
        x.says(1, 81, 19, 100);
        could(x, 0, 1, 30, 30);
        could(x, 1, 2, 65, 80);
        could(x, 2, 26, 70, 100);
        could(x, 3, 0, -9, -9);
        could(x, 4, 1, 0, 0);
        could(x, 5, 20, 81, 100);
        Due.due("liars()", x.liars(), 0b001101);
        Due.due("could(0, 3)", x.could(0, 3), -1);
        Due.due("could(0, -1)", x.could(0, -1), -1);
        Due.due("could(6, 0)", x.could(6, 0), -1);
        Due.due("could(-1, 0)", x.could(-1, 0), -1);
        x.turn();
        Due.due("liars() behind a turn", x.liars(), 0b001101);
    }

    private static void odds(OneSocket x, int v, int p, int n, long upper, long lower) {
        String call = "odds(0, " + v + ", " + p + ", " + n + ", ";
        Due.due(call + "0)", x.odds(0, v, p, n, 0), upper);
        Due.due(call + "1)", x.odds(0, v, p, n, 1), lower);
    }

    private static void odds() {
        OneSocket x = Due.told("t50 10 5;c0 0 50;d0 60;");
        odds(x, 50, 3, 0, 1, 1);
        odds(x, 51, 3, 0, 0, 1);
        odds(x, 60, 3, 1, 7, 10);
        odds(x, 45, 3, 1, 1, 1);
        odds(x, 70, 5, 2, 1, 4);
        odds(x, 55, 5, 2, 3, 4);
        odds(x, 55, 2, 2, 24, 25);
        odds(x, 41, 2, 2, 24, 25);
        odds(x, 100, 0, 7, 1, 1);
        odds(x, 100, 0, 6, 0, 1);
        odds(x, 5, 10, 9, 1, 1);
        odds(x, 6, 10, 9, 0, 1);
        odds(x, 6, 3, 9, 999980317L, 1000000000L);
        odds(x, 6, 5, 9, 511, 512);
        x.lends(0, 50);
        odds(x, 10, 5, 2, 1, 2);
        odds(x, 5, 5, 2, 3, 4);
    }

    private static void wrongOdds() {
        OneSocket x = Due.told("t50 10 5;");
        Due.due("odds(1, ..)", x.odds(1, 0, 0, 0, 0), -1);
        Due.due("odds(-1, ..)", x.odds(-1, 0, 0, 0, 0), -1);
        Due.due("odds(0, -1, ..)", x.odds(0, -1, 0, 0, 0), -1);
        Due.due("odds(0, 101, ..)", x.odds(0, 101, 0, 0, 0), -1);
        Due.due("odds(0, 0, -1, ..)", x.odds(0, 0, -1, 0, 0), -1);
        Due.due("odds(0, 0, 11, ..)", x.odds(0, 0, 11, 0, 0), -1);
        Due.due("odds(0, 0, 0, -1, 0)", x.odds(0, 0, 0, -1, 0), -1);
        Due.due("odds(0, 0, 0, 10, 0)", x.odds(0, 0, 0, 10, 0), -1);
        Due.due("odds(0, 0, 0, 0, 2)", x.odds(0, 0, 0, 0, 2), -1);
        Due.due("odds(0, 0, 0, 0, -1)", x.odds(0, 0, 0, 0, -1), -1);
    }

    public static void main(String[] args) {
        says();
        couldAndLiars();
        odds();
        wrongOdds();
        Due.end("SaidTest");
    }
}
