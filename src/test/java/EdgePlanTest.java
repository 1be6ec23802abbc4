/** Boundary cases of part 3, plans and what was said, and of promises 13 to 20: a test for each sentence. */
public final class EdgePlanTest {
    private static void plan(String why, OneSocket x, int n, int... due) {
        for (int what = 0; what < due.length; what++) {
            Due.due(why + ": plan(" + n + ", " + what + ")", x.plan(n, what), due[what]);
        }
    }

    private static void planned() {
        Due.of("PLAN for n (0 .. 4) TURNS");
        OneSocket x = Due.told("t5 5 5;");
        Due.due("plan(-1, 4)", x.plan(-1, 4), -1);
        plan("no turn", x, 0, -5, -5, -5, -5, 0, 0, 0);
        plan("one", x, 1, 1, -5, -5, -5, 0, 0, 1);
        plan("two", x, 2, 0, 1, -5, -5, 0, 0, 1);
        plan("three", x, 3, 0, 0, 1, -5, 0, 0, 1);
        plan("four", x, 4, 0, 0, 0, 1, 0, 0, 1);
        Due.due("plan(5, 4)", x.plan(5, 4), -1);
        Due.due("plan(min, 4)", x.plan(Integer.MIN_VALUE, 4), -1);
        Due.due("plan(max, 4)", x.plan(Integer.MAX_VALUE, 4), -1);
    }

    private static void ofNoTurn() {
        Due.of("MISSED in these TURNS the fewest; of these OUT at the end the fewest");
        OneSocket x = Due.told("t0 5 5;t9 5 5;t0 5 5;c0 0 1;");
        plan("no turn: its call is not asked", x, 0, -5, -5, -5, -5, 0, 2, 0);
        x.turn();
        Due.due("now(3)", x.now(3), 1);
        plan("missed earlier is not counted", x, 1, 1, -5, -5, -5, 0, 2, 1);
    }

    private static void ofNoTelephone() {
        Due.of("of all rows of sets (HOLES at most each), one a TURN");
        plan("no telephones", new OneSocket(), 4, 0, 0, 0, 0, 0, 0, 0);
        plan("two holes and none to put in", Due.told("h2;"), 2, 0, 0, -5, -5, 0, 0, 0);
    }

    private static void holesAtMostEach() {
        Due.of("of all rows of sets (HOLES at most each)");
        plan("one hole: four of five go out", Due.told("t1 1 1;t1 1 1;t1 1 1;t1 1 1;t1 1 1;"), 1,
                1, -5, -5, -5, 0, 4, 1);
        plan("two holes: three of five go out", Due.told("t1 1 1;t1 1 1;t1 1 1;t1 1 1;t1 1 1;h2;"), 1,
                3, -5, -5, -5, 0, 3, 1);
        plan("two holes, one telephone", Due.told("t1 1 1;h2;"), 1, 1, -5, -5, -5, 0, 0, 1);
        plan("the last two of five", Due.told("t9 1 1;t9 1 1;t9 1 1;t1 1 1;t1 1 1;h2;"), 1,
                24, -5, -5, -5, 0, 0, 1);
    }

    private static void missedFirst() {
        Due.of("MISSED in these TURNS the fewest; of these OUT at the end the fewest");
        OneSocket x = Due.told("t9 1 0;t1 1 1;t1 1 1;c0 1 10;h1;");
        plan("two out rather than one missed", x, 2, 1, 1, -5, -5, 0, 2, 1);
        x = Due.told("t9 1 0;t1 1 1;t1 1 1;c0 2 10;h1;");
        plan("the call is behind these turns", x, 2, 2, 4, -5, -5, 0, 0, 2);
        plan("the call is of the last turn", x, 3, 1, 1, 2, -5, 0, 1, 2);
    }

    private static void outAheadOfGotUp() {
        Due.of("of these OUT at the end the fewest; of these GOT UP least");
        OneSocket x = Due.told("t2 1 1;t2 1 1;");
        plan("got up twice rather than one out", x, 2, 1, 2, -5, -5, 0, 0, 2);
        x = Due.told("t1 1 1;t1 1 1;");
        x.puts(2);
        plan("one goes out all the same: none got up", x, 1, 2, -5, -5, -5, 0, 1, 0);
        x = Due.told("t1 2 1;t4 1 1;t4 1 1;t4 1 1;");
        // The first one lasts only if it is on it at turn 2 or 3.
        plan("four changes", x, 4, 2, 4, 1, 8, 0, 0, 4);
    }

    private static void gotUpFromWhatIsOn() {
        Due.of("of these GOT UP least; of these the first by sets, TURN by TURN");
        OneSocket x = Due.told("t50 1 1;t50 1 1;");
        plan("none on it stays so", x, 4, 0, 0, 0, 0, 0, 0, 0);
        x.puts(2);
        plan("what is on it stays", x, 4, 2, 2, 2, 2, 0, 0, 0);
        x = Due.told("t3 1 1;t9 1 1;t3 1 1;");
        x.puts(2);
        plan("the first of several rows", x, 3, 1, 1, 4, -5, 0, 0, 2);
    }

    private static void firstBySets() {
        Due.of("of these the first by sets, TURN by TURN");
        OneSocket x = Due.told("t5 5 1;t5 5 1;c0 1 10;c1 1 10;");
        plan("either call: the first set", x, 2, 1, 1, -5, -5, 1, 0, 1);
        x = Due.told("t5 5 0;t5 5 0;t5 5 0;c0 3 10;h2;");
        plan("as late as can be", x, 4, 0, 0, 1, 1, 0, 0, 1);
        x = Due.told("t5 5 0;t5 5 0;t5 5 0;c2 3 10;h2;");
        plan("no other beside it, for the set is less", x, 4, 0, 0, 4, 4, 0, 0, 1);
        x = Due.told("t5 5 0;t5 5 0;t5 5 0;c0 2 10;c2 2 10;h2;");
        plan("both", x, 3, 0, 5, 5, -5, 0, 0, 1);
    }

    private static void darkPlans() {
        Due.of("of all rows of sets (HOLES at most each), one a TURN");
        OneSocket x = Due.told("t5 5 5;d0 0;");
        plan("no set helps in the dark", x, 1, 0, -5, -5, -5, 0, 1, 0);
        x = Due.told("t5 4 9;d1 1;");
        plan("9 do not last through the dark", x, 2, 0, 0, -5, -5, 0, 1, 0);
        x = Due.told("t5 5 9;d1 1;");
        plan("10 do", x, 2, 1, 1, -5, -5, 0, 0, 1);
    }

    private static void plansOfTheLastTurns() {
        Due.of("(From NOW on; nothing is changed.)");
        OneSocket x = Due.told("t99 1 1;c0 60 1;");
        Due.turns(x, 60);
        Due.levels("turn 60", x, 39);
        plan("the last call", x, 1, 0, -5, -5, -5, 0, 0, 0);
        Due.turns(x, 37);
        Due.levels("turn 97", x, 1);
        plan("turn 97", x, 2, 0, 1, -5, -5, 0, 0, 1);
        Due.turns(x, 2);
        plan("turn 99", x, 4, 0, 0, 0, 1, 0, 0, 1);
        Due.due("now(0)", x.now(0), 99);
    }

    private static void planAnswers() {
        Due.of("what = 0 .. 3 the set of that TURN (-5: not so many), 4 MISSED, 5 OUT, 6 GOT UP. BAD.");
        OneSocket x = Due.told("t5 5 5;");
        for (int n = 0; n <= 4; n++) {
            Due.due("plan(" + n + ", -1)", x.plan(n, -1), -1);
            Due.due("plan(" + n + ", 7)", x.plan(n, 7), -1);
            for (int what = 0; what <= 3; what++) {
                Due.due("plan(" + n + ", " + what + ") is of a turn", x.plan(n, what) == -5 ? 0 : 1, what < n ? 1 : 0);
            }
        }
        Due.due("plan(5, 3): bad goes first", x.plan(5, 3), -1);
        Due.due("plan(-1, 0): bad goes first", x.plan(-1, 0), -1);
        Due.due("plan(0, min)", x.plan(0, Integer.MIN_VALUE), -1);
        Due.due("plan(0, max)", x.plan(0, Integer.MAX_VALUE), -1);
    }

    private static void fullByTurns() {
        Due.of("FULL BY: the fewest TURNS (0 .. 60) behind which a TELEPHONE has a LEVEL v at least");
        OneSocket x = Due.told("t20 1 0;t19 1 0;t50 10 0;");
        Due.due("fullBy(0, 20): as it is", x.fullBy(0, 20), 0);
        Due.due("fullBy(0, 21)", x.fullBy(0, 21), 1);
        Due.due("fullBy(0, 80): the last turn", x.fullBy(0, 80), 60);
        Due.due("fullBy(0, 81): one too late", x.fullBy(0, 81), -9);
        Due.due("fullBy(1, 79)", x.fullBy(1, 79), 60);
        Due.due("fullBy(1, 80)", x.fullBy(1, 80), -9);
        Due.due("fullBy(2, 60): as much", x.fullBy(2, 60), 1);
        Due.due("fullBy(2, 61): more", x.fullBy(2, 61), 2);
        Due.due("fullBy(2, 100)", x.fullBy(2, 100), 7);
    }

    private static void fullByCallsAndDark() {
        Due.of("if it alone is ON IT all the time (CALLS are as told)");
        OneSocket x = Due.told("t45 10 9;t50 10 9;c0 0 50;c1 1 50;d2 3;d0 0;h2;");
        x.puts(2);
        // 45 misses; dark: 36, 46; dark: 37, 28; then 38, 48.
        Due.due("fullBy(0, 46)", x.fullBy(0, 46), 2);
        Due.due("fullBy(0, 47)", x.fullBy(0, 47), 6);
        // Dark: 41, 51 less nothing; it misses as 41 is less than 50.
        Due.due("fullBy(1, 51)", x.fullBy(1, 51), 2);
        x = Due.told("t100 10 9;c0 0 50;");
        Due.due("fullBy(0, 100): ahead of the call", x.fullBy(0, 100), 0);
        x = Due.told("t90 10 9;c0 0 50;");
        Due.due("fullBy(0, 91): the call comes first", x.fullBy(0, 91), 7);
        x = Due.told("t50 10 9;d0 60;");
        Due.due("fullBy(0, 51): dark for 61 turns", x.fullBy(0, 51), -9);
        x.turn();
        Due.due("fullBy(0, 51) from turn 1", x.fullBy(0, 51), -9);
        Due.turns(x, 59);
        Due.due("fullBy(0, 20) from turn 60", x.fullBy(0, 20), 3);
    }

    private static void fullByRefused() {
        Due.of("FULL BY; NONE. BAD (v 0 .. 100).");
        OneSocket x = Due.told("t0 30 0;t0 1 0;");
        Due.due("fullBy(0, -1)", x.fullBy(0, -1), -1);
        Due.due("fullBy(0, 0)", x.fullBy(0, 0), 0);
        Due.due("fullBy(0, 100)", x.fullBy(0, 100), 4);
        Due.due("fullBy(0, 101)", x.fullBy(0, 101), -1);
        Due.due("fullBy(1, 100)", x.fullBy(1, 100), -9);
        Due.due("fullBy(2, 0)", x.fullBy(2, 0), -1);
        Due.due("fullBy(-1, 0)", x.fullBy(-1, 0), -1);
        Due.due("fullBy(max, 0)", x.fullBy(Integer.MAX_VALUE, 0), -1);
        Due.due("fullBy(0, min)", x.fullBy(0, Integer.MIN_VALUE), -1);
        Due.due("fullBy(0, max)", x.fullBy(0, Integer.MAX_VALUE), -1);
    }

    private static void latestTurns() {
        Due.of("LATEST for a TELEPHONE and a TURN t (THE TURN .. 60)");
        OneSocket x = Due.told("t50 10 0;");
        Due.due("latest(0, -1)", x.latest(0, -1), -1);
        Due.due("latest(0, 0)", x.latest(0, 0), 1);
        Due.due("latest(0, 60)", x.latest(0, 60), 61);
        Due.due("latest(0, 61)", x.latest(0, 61), -1);
        Due.due("latest(1, 0)", x.latest(1, 0), -1);
        Due.due("latest(-1, 0)", x.latest(-1, 0), -1);
        Due.due("latest(0, min)", x.latest(0, Integer.MIN_VALUE), -1);
        Due.due("latest(0, max)", x.latest(0, Integer.MAX_VALUE), -1);
        Due.turns(x, 7);
        Due.due("latest(0, 6): gone by", x.latest(0, 6), -1);
        Due.due("latest(0, 7): now", x.latest(0, 7), 8);
        Due.turns(x, 53);
        Due.due("latest(0, 60) at 60", x.latest(0, 60), 61);
        Due.due("latest(0, 59) at 60", x.latest(0, 59), -1);
        x.turn();
        Due.due("latest(0, 60) at 61", x.latest(0, 60), -1);
        Due.due("latest(0, 61) at 61", x.latest(0, 61), -1);
    }

    private static void latestFrom() {
        Due.of("the latest TURN (to t and 1) from which on it can be ON IT alone, nothing till then");
        OneSocket x = Due.told("t10 10 0;t10 10 0;c0 3 20;c0 3 10;");
        Due.due("latest(0, 3)", x.latest(0, 3), 1);
        Due.due("latest(0, 2): the call is behind it", x.latest(0, 2), 3);
        x.puts(1);
        Due.due("latest(0, 3): what is on it now is not asked", x.latest(0, 3), 1);
        x = Due.told("t40 10 1;c0 3 37;");
        Due.due("latest(0, 3): none needed", x.latest(0, 3), 4);
        x = Due.told("t40 10 1;c0 3 38;");
        Due.due("latest(0, 3): one turn", x.latest(0, 3), 2);
        x = Due.told("t30 1 1;c0 3 33;");
        Due.due("latest(0, 3): all the time", x.latest(0, 3), 0);
        x = Due.told("t30 1 1;c0 3 34;");
        Due.due("latest(0, 3): never", x.latest(0, 3), -9);
    }

    private static void latestUpToT() {
        Due.of("so that no CALL of its up to TURN t is MISSED (others are not asked); NONE");
        OneSocket x = Due.told("t9 1 0;t50 1 0;c0 0 10;c1 60 50;c1 59 1;");
        Due.due("latest(0, 0): a call at once", x.latest(0, 0), -9);
        Due.due("latest(1, 58)", x.latest(1, 58), 59);
        Due.due("latest(1, 59)", x.latest(1, 59), 60);
        Due.due("latest(1, 60)", x.latest(1, 60), 59);
        x.turn();
        Due.due("latest(0, 5): it was missed earlier", x.latest(0, 5), 6);
    }

    private static void latestTriesEachTurn() {
        Due.of("the latest TURN (to t and 1) from which on");
        // Put on at 0 it slows down from 80 on; run down first, it leaps from 79.
        OneSocket x = Due.told("t80 30 1;c0 1 50;c0 1 50;");
        Due.due("latest(0, 1): neither way", x.latest(0, 1), -9);
        x = Due.told("t80 30 1;c0 2 50;c0 2 50;");
        Due.due("latest(0, 2): from 1 on, 79 and 100", x.latest(0, 2), 1);
    }

    private static void saidRanges() {
        Due.of("(6 lines at most): behind t (1 .. 20) TURNS on it, it was v (0 .. 100)");
        OneSocket x = Due.told("t50 10 5;t50 1 5;");
        Due.due("says(0, -1, 1, 0)", x.says(0, -1, 1, 0), -1);
        Due.due("says(0, 101, 1, 0)", x.says(0, 101, 1, 0), -1);
        Due.due("says(0, 0, 0, 0)", x.says(0, 0, 0, 0), -1);
        Due.due("says(0, 0, 21, 0)", x.says(0, 0, 21, 0), -1);
        Due.due("says(0, 0, 1, -1)", x.says(0, 0, 1, -1), -1);
        Due.due("says(0, 0, 1, 101)", x.says(0, 0, 1, 101), -1);
        Due.due("says(-1, 0, 1, 0)", x.says(-1, 0, 1, 0), -1);
        Due.due("says(2, 0, 1, 0)", x.says(2, 0, 1, 0), -1);
        Due.due("says(0, min, 1, 0)", x.says(0, Integer.MIN_VALUE, 1, 0), -1);
        Due.due("says(0, 0, max, 0)", x.says(0, 0, Integer.MAX_VALUE, 0), -1);
        Due.due("says(0, 0, 1, max)", x.says(0, 0, 1, Integer.MAX_VALUE), -1);
        Due.due("count(4)", x.count(4), 0);
        Due.due("says(0, 0, 1, 0)", x.says(0, 0, 1, 0), 1);
        Due.due("says(1, 100, 20, 100)", x.says(1, 100, 20, 100), 2);
        Due.due("says(1, 0, 20, 20)", x.says(1, 0, 20, 20), 3);
        Due.due("says(1, 100, 1, 0)", x.says(1, 100, 1, 0), 4);
        Due.due("liars()", x.liars(), 0b1001);
    }

    private static void saidFull() {
        Due.of("SAID: how much there is. BAD; FULL.");
        OneSocket x = Due.told("t50 10 5;");
        for (int i = 1; i <= 6; i++) {
            Due.due("says(): line " + i, x.says(0, i, 1, 10 + i), i);
        }
        Due.due("says(): a seventh", x.says(0, 0, 1, 99), -3);
        Due.due("says(): bad goes first", x.says(0, 0, 21, 99), -1);
        Due.due("says(): of none, bad goes first", x.says(1, 0, 1, 99), -1);
        Due.due("count(4)", x.count(4), 6);
        Due.due("liars()", x.liars(), 0);
        for (int i = 0; i < 6; i++) {
            Due.due("could(" + i + ", 1)", x.could(i, 1), i + 1);
        }
    }

    private static void forgotten() {
        Due.of("Nothing was SAID: how much there was.");
        OneSocket x = Due.told("t50 10 5;");
        Due.due("forget() of nothing", x.forget(), 0);
        x.says(0, 9, 1, 30);
        Due.due("liars()", x.liars(), 1);
        Due.due("forget() of one", x.forget(), 1);
        Due.due("liars()", x.liars(), 0);
        Due.due("could(0, 0)", x.could(0, 0), -1);
        for (int i = 0; i < 6; i++) {
            x.says(0, 0, 1, 0);
        }
        Due.due("forget() of a full one", x.forget(), 6);
        Due.due("says() has room again", x.says(0, 0, 1, 10), 1);
        Due.due("liars() of the new line", x.liars(), 0);
    }

    private static void could(OneSocket x, int line, int many, int least, int greatest) {
        Due.due("could(" + line + ", 0)", x.could(line, 0), many);
        Due.due("could(" + line + ", 1)", x.could(line, 1), least);
        Due.due("could(" + line + ", 2)", x.could(line, 2), greatest);
    }

    private static void couldLevels() {
        Due.of("how many LEVELS (0 .. 100) at first lead to v; the least, the greatest; NONE");
        OneSocket x = Due.told("t50 10 5;t50 30 5;t50 1 5;");
        x.says(0, 0, 1, 10);
        x.says(0, 0, 1, 9);
        x.says(0, 0, 1, 100);
        x.says(1, 0, 20, 100);
        x.says(1, 0, 1, 95);
        x.says(2, 0, 20, 100);
        could(x, 0, 1, 0, 0);
        could(x, 1, 0, -9, -9);
        could(x, 2, 6, 95, 100);
        could(x, 3, 101, 0, 100);
        could(x, 4, 2, 65, 80);
        could(x, 5, 21, 80, 100);
    }

    private static void couldRefused() {
        Due.of("how many (what = 0), the least (1), the greatest (2); NONE. BAD.");
        OneSocket x = Due.told("t50 10 5;");
        Due.due("could(0, 0) of none", x.could(0, 0), -1);
        x.says(0, 9, 1, 19);
        Due.due("could(0, 0)", x.could(0, 0), 1);
        Due.due("could(1, 0)", x.could(1, 0), -1);
        Due.due("could(-1, 0)", x.could(-1, 0), -1);
        Due.due("could(0, -1)", x.could(0, -1), -1);
        Due.due("could(0, 3)", x.could(0, 3), -1);
        Due.due("could(max, 0)", x.could(Integer.MAX_VALUE, 0), -1);
        Due.due("could(min, 0)", x.could(Integer.MIN_VALUE, 0), -1);
        for (int i = 1; i < 6; i++) {
            x.says(0, 9, 1, 19);
        }
        Due.due("could(5, 2)", x.could(5, 2), 9);
        Due.due("could(6, 2)", x.could(6, 2), -1);
    }

    private static void liars() {
        Due.of("LIARS: lines (bits) of which what was said leads to another LEVEL");
        OneSocket x = Due.told("t50 10 5;c0 0 50;d0 60;");
        Due.due("liars() of none", x.liars(), 0);
        x.says(0, 79, 1, 89);
        x.says(0, 80, 1, 85);
        x.says(0, 80, 1, 90);
        x.says(0, 100, 20, 100);
        x.says(0, 0, 11, 100);
        x.says(0, 0, 12, 100);
        Due.due("liars()", x.liars(), 0b010100);
        x.forget();
        for (int i = 0; i < 6; i++) {
            x.says(0, 0, 1, 11);
        }
        Due.due("liars(): all of them", x.liars(), 63);
    }

    private static void odds(OneSocket x, int v, int p, int n, long upper, long lower) {
        String call = "odds(0, " + v + ", " + p + ", " + n + ", ";
        Due.due(call + "0)", x.odds(0, v, p, n, 0), upper);
        Due.due(call + "1)", x.odds(0, v, p, n, 1), lower);
    }

    private static void oddsOfTheEnds() {
        Due.of("ODDS by p (0 .. 10), n (0 .. 9) TURNS");
        OneSocket x = Due.told("t50 10 5;t50 10 5;");
        odds(x, 50, 5, 0, 1, 1);
        odds(x, 51, 5, 0, 0, 1);
        odds(x, 60, 0, 1, 1, 1);
        odds(x, 61, 0, 1, 0, 1);
        odds(x, 45, 10, 1, 1, 1);
        odds(x, 46, 10, 1, 0, 1);
        odds(x, 100, 0, 9, 1, 1);
        odds(x, 5, 10, 9, 1, 1);
        odds(x, 6, 10, 9, 0, 1);
        odds(x, 60, 1, 1, 9, 10);
        odds(x, 60, 9, 1, 1, 10);
        odds(x, 6, 1, 9, 999999999L, 1000000000L);
        odds(x, 6, 9, 9, 612579511L, 1000000000L);
    }

    private static void oddsOfALoosePlug() {
        Due.of("falls out by p of 10 (it RUNS down then; CALLS, DARK are not asked)");
        OneSocket x = Due.told("t3 10 5;c0 0 1;d0 60;");
        odds(x, 0, 10, 9, 1, 1);
        odds(x, 10, 5, 2, 1, 2);
        odds(x, 11, 5, 2, 1, 4);
        odds(x, 8, 5, 2, 3, 4);
        odds(x, 23, 5, 2, 1, 4);
        odds(x, 24, 5, 2, 0, 1);
        x = Due.told("t80 30 1;");
        odds(x, 100, 5, 2, 1, 2);
        odds(x, 95, 5, 2, 1, 2);
        odds(x, 94, 5, 2, 3, 4);
    }

    private static void oddsRefused() {
        Due.of("ODDS: upper (what = 0), lower number (1), in least terms. BAD.");
        OneSocket x = Due.told("t50 10 5;");
        Due.due("odds(-1, ..)", x.odds(-1, 0, 0, 0, 0), -1);
        Due.due("odds(1, ..)", x.odds(1, 0, 0, 0, 0), -1);
        Due.due("odds(0, -1, ..)", x.odds(0, -1, 0, 0, 0), -1);
        Due.due("odds(0, 0, ..)", x.odds(0, 0, 0, 0, 0), 1);
        Due.due("odds(0, 100, ..)", x.odds(0, 100, 0, 0, 0), 0);
        Due.due("odds(0, 101, ..)", x.odds(0, 101, 0, 0, 0), -1);
        Due.due("odds(0, 0, -1, ..)", x.odds(0, 0, -1, 0, 0), -1);
        Due.due("odds(0, 0, 10, ..)", x.odds(0, 0, 10, 0, 0), 1);
        Due.due("odds(0, 0, 11, ..)", x.odds(0, 0, 11, 0, 0), -1);
        Due.due("odds(0, 0, 0, -1, ..)", x.odds(0, 0, 0, -1, 0), -1);
        Due.due("odds(0, 0, 0, 9, ..)", x.odds(0, 0, 0, 9, 0), 1);
        Due.due("odds(0, 0, 0, 10, ..)", x.odds(0, 0, 0, 10, 0), -1);
        Due.due("odds(0, 0, 0, 0, -1)", x.odds(0, 0, 0, 0, -1), -1);
        Due.due("odds(0, 0, 0, 0, 1)", x.odds(0, 0, 0, 0, 1), 1);
        Due.due("odds(0, 0, 0, 0, 2)", x.odds(0, 0, 0, 0, 2), -1);
        Due.due("odds(0, 0, 0, max, 0)", x.odds(0, 0, 0, Integer.MAX_VALUE, 0), -1);
        Due.due("odds(0, 0, min, 0, 0)", x.odds(0, 0, Integer.MIN_VALUE, 0, 0), -1);
    }

    public static void main(String[] args) {
        planned();
        ofNoTurn();
        ofNoTelephone();
        holesAtMostEach();
        missedFirst();
        outAheadOfGotUp();
        gotUpFromWhatIsOn();
        firstBySets();
        darkPlans();
        plansOfTheLastTurns();
        planAnswers();
        fullByTurns();
        fullByCallsAndDark();
        fullByRefused();
        latestTurns();
        latestFrom();
        latestUpToT();
        latestTriesEachTurn();
        saidRanges();
        saidFull();
        forgotten();
        couldLevels();
        couldRefused();
        liars();
        oddsOfTheEnds();
        oddsOfALoosePlug();
        oddsRefused();
        Due.end("EdgePlanTest");
    }
}
