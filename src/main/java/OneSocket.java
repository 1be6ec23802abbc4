/**
 * One socket and up to five telephones that are to be charged from it: a text tells them, turns go by,
 * and plans, odds and claims are answered from where things stand.
 */
public final class OneSocket {
    public static final int BAD = -1, STATE = -2, FULL = -3, NONE = -9;
    public static final int NO = -1000000;

    private static final int PHONES = 5;
    private static final int CALLS = 8;
    private static final int DARKS = 2;
    private static final int LETTERS = 200;
    private static final int LINES = 6;
    private static final int IMAGES = 2;
    private static final int KINDS = 6;
    private static final int PLANNED = 4;
    private static final int TOP = 100;
    private static final int LAST_TURN = 99;
    private static final int LAST_TOLD_TURN = 60;
    private static final int LAST_DARK_ASKED = 160;
    private static final int MOST_FILLING_TURNS = 60;
    private static final int NOT_SO_MANY = -5;

    private final Told told = new Told();
    private final Told draft = new Told();
    private final Reader text = new Reader();
    private final Now state = new Now();
    private final Book book = new Book();
    private final Planner planner = new Planner();
    private final Telephone[] kinds = new Telephone[KINDS];
    private final int[][] images = new int[IMAGES][Now.ROW];
    private final boolean[] kept = new boolean[IMAGES];
    private final int[] saidPhone = new int[LINES];
    private final int[] saidFirst = new int[LINES];
    private final int[] saidTurns = new int[LINES];
    private final int[] saidThen = new int[LINES];
    private int lines = 0;
    private long traced = 0;

    public OneSocket() {
        kinds[0] = new Telephone();
        kinds[1] = new Alarm();
        kinds[2] = new Lamp();
        kinds[3] = new BabyPhone();
        kinds[4] = new Radio();
        kinds[5] = new SixthOne();
    }

    // ---- the room

    public int type(int letter) {
        if (letter < 0 || letter > 255) {
            return BAD;
        }
        return text.add(letter) ? text.length : FULL;
    }

    public int clear() {
        int had = text.length;
        text.length = 0;
        return had;
    }

    public int room() {
        int items = text.readInto(draft);
        if (items < 0) {
            return -10 - text.tokenPlace;
        }
        told.take(draft);
        state.begin(told);
        book.pages = 0;
        lines = 0;
        for (int i = 0; i < IMAGES; i++) {
            kept[i] = false;
        }
        text.length = 0;
        return items;
    }

    public int phone(int k, int what) {
        if (!isPhone(k)) {
            return BAD;
        }
        switch (what) {
            case 0: return state.level[k];
            case 1: return told.fills[k];
            case 2: return told.runs[k];
            case 3: return state.turnsOn[k];
            case 4: return state.isOn(k) ? 1 : 0;
            default: return BAD;
        }
    }

    public int call(int i, int what) {
        if (!isWithin(i, 0, told.calls - 1)) {
            return BAD;
        }
        switch (what) {
            case 0: return told.callPhone[i];
            case 1: return told.callTurn[i];
            case 2: return told.callNeeds[i];
            default: return BAD;
        }
    }

    public int dark(int t) {
        if (!isWithin(t, 0, LAST_DARK_ASKED)) {
            return BAD;
        }
        return told.isDark(t) ? 1 : 0;
    }

    // ---- turns

    public int puts(int set) {
        if (!told.canBeOn(set)) {
            return BAD;
        }
        book.write(state);
        if (set != state.on) {
            state.on = set;
            state.gotUp++;
        }
        return state.gotUp;
    }

    public int turn() {
        if (state.turn >= LAST_TURN) {
            return STATE;
        }
        book.write(state);
        state.goOn(told);
        return Integer.bitCount(state.out(told.phones));
    }

    public int lends(int k, int n) {
        if (!isPhone(k) || !isWithin(n, 1, 50)) {
            return BAD;
        }
        if (state.level[k] < n) {
            return STATE;
        }
        book.write(state);
        state.level[k] -= n;
        return state.level[k];
    }

    public int undo() {
        if (book.pages == 0) {
            return STATE;
        }
        book.takeBack(state);
        return book.pages;
    }

    public int now(int what) {
        switch (what) {
            case 0: return state.turn;
            case 1: return state.on;
            case 2: return state.out(told.phones);
            case 3: return state.missed;
            case 4: return state.gotUp;
            case 5: return state.fair(told.phones);
            case 6: return state.leans(told.phones);
            case 7: return book.pages;
            default: return BAD;
        }
    }

    // ---- plans

    public int plan(int n, int what) {
        if (!isWithin(n, 0, PLANNED) || !isWithin(what, 0, 6)) {
            return BAD;
        }
        if (what < PLANNED && what >= n) {
            return NOT_SO_MANY;
        }
        planner.make(told, state, n);
        switch (what) {
            case 4: return planner.missed();
            case 5: return planner.out();
            case 6: return planner.gotUp();
            default: return planner.best[what];
        }
    }

    public int fullBy(int k, int v) {
        if (!isPhone(k) || !isWithin(v, 0, TOP)) {
            return BAD;
        }
        int level = state.level[k];
        for (int turns = 0; turns <= MOST_FILLING_TURNS; turns++) {
            if (level >= v) {
                return turns;
            }
            level = told.levelBehind(state.turn + turns, k, level, true);
        }
        return NONE;
    }

    public int latest(int k, int t) {
        if (!isPhone(k) || !isWithin(t, state.turn, LAST_TOLD_TURN)) {
            return BAD;
        }
        // Filling slows down at eighty, so one put on earlier may hold less later: each turn is tried by itself.
        for (int from = t + 1; from >= state.turn; from--) {
            if (holdsOut(k, from, t)) {
                return from;
            }
        }
        return NONE;
    }

    private boolean holdsOut(int k, int from, int last) {
        int level = state.level[k];
        for (int t = state.turn; t <= last; t++) {
            if (told.missedAt(t, k, level) > 0) {
                return false;
            }
            level = told.levelBehind(t, k, level, t >= from);
        }
        return true;
    }

    // ---- what was said

    public int says(int k, int n, int t, int v) {
        if (!isPhone(k) || !isWithin(n, 0, TOP) || !isWithin(t, 1, 20) || !isWithin(v, 0, TOP)) {
            return BAD;
        }
        if (lines >= LINES) {
            return FULL;
        }
        saidPhone[lines] = k;
        saidFirst[lines] = n;
        saidTurns[lines] = t;
        saidThen[lines] = v;
        lines++;
        return lines;
    }

    public int forget() {
        int had = lines;
        lines = 0;
        return had;
    }

    public int could(int i, int what) {
        if (!isWithin(i, 0, lines - 1) || !isWithin(what, 0, 2)) {
            return BAD;
        }
        int many = 0;
        int least = NONE;
        int greatest = NONE;
        for (int level = 0; level <= TOP; level++) {
            if (leadsToWhatWasSeen(i, level)) {
                many++;
                least = many == 1 ? level : least;
                greatest = level;
            }
        }
        return what == 0 ? many : what == 1 ? least : greatest;
    }

    public int liars() {
        int bits = 0;
        for (int i = 0; i < lines; i++) {
            if (!leadsToWhatWasSeen(i, saidFirst[i])) {
                bits |= 1 << i;
            }
        }
        return bits;
    }

    private boolean leadsToWhatWasSeen(int line, int first) {
        int level = first;
        for (int t = 0; t < saidTurns[line]; t++) {
            level = told.filled(saidPhone[line], level);
        }
        return level == saidThen[line];
    }

    public long odds(int k, int v, int p, int n, int what) {
        if (!isPhone(k) || !isWithin(v, 0, TOP) || !isWithin(p, 0, 10)
                || !isWithin(n, 0, 9) || !isWithin(what, 0, 1)) {
            return BAD;
        }
        long upper = waysOfTen(k, v, p, state.level[k], n);
        long lower = 1;
        for (int i = 0; i < n; i++) {
            lower *= 10;
        }
        long common = greatestDivisor(upper, lower);
        if (common == 0) {
            return BAD;
        }
        return (what == 0 ? upper : lower) / common;
    }

    /** In how many of 10 to the turns' power ways the level ends at v or more. */
    private long waysOfTen(int k, int v, int p, int level, int turns) {
        if (turns <= 0) {
            return level >= v ? 1 : 0;
        }
        return p * waysOfTen(k, v, p, told.drained(k, level), turns - 1)
                + (10 - p) * waysOfTen(k, v, p, told.filled(k, level), turns - 1);
    }

    private static long greatestDivisor(long a, long b) {
        long divisor = b;
        long rest = a;
        // Numbers up to 10 to the 9th need fewer than 50 steps.
        for (int step = 0; step < 100 && rest != 0; step++) {
            long next = divisor % rest;
            divisor = rest;
            rest = next;
        }
        return divisor;
    }

    // ---- kinds, images

    public int rate(int kind, int k) {
        if (!isWithin(kind, 0, KINDS - 1) || !isPhone(k)) {
            return NO;
        }
        Telephone body = kinds[kind];
        return body == null ? NO : body.worth(this, k);
    }

    public int keep(int image) {
        if (!isWithin(image, 0, IMAGES - 1)) {
            return BAD;
        }
        state.copyTo(images[image]);
        kept[image] = true;
        return state.turn;
    }

    public int back(int image) {
        if (!isWithin(image, 0, IMAGES - 1)) {
            return BAD;
        }
        if (!kept[image]) {
            return STATE;
        }
        state.copyFrom(images[image]);
        book.pages = 0;
        return state.turn;
    }

    public int count(int what) {
        switch (what) {
            case 0: return told.phones;
            case 1: return told.holes;
            case 2: return told.calls;
            case 3: return told.darks;
            case 4: return lines;
            case 5: return text.length;
            default: return BAD;
        }
    }

    public long trace() {
        return traced;
    }

    private boolean isPhone(int k) {
        return isWithin(k, 0, told.phones - 1);
    }

    private static boolean isWithin(int n, int least, int greatest) {
        return n >= least && n <= greatest;
    }

    /** What a text tells; it stays as it is until another text is read. */
    private static final class Told {
        int phones = 0;
        int holes = 1;
        int calls = 0;
        int darks = 0;
        final int[] level = new int[PHONES];
        final int[] fills = new int[PHONES];
        final int[] runs = new int[PHONES];
        final int[] callPhone = new int[CALLS];
        final int[] callTurn = new int[CALLS];
        final int[] callNeeds = new int[CALLS];
        final int[] darkFrom = new int[DARKS];
        final int[] darkTo = new int[DARKS];

        void empty() {
            phones = 0;
            holes = 1;
            calls = 0;
            darks = 0;
        }

        void take(Told other) {
            phones = other.phones;
            holes = other.holes;
            calls = other.calls;
            darks = other.darks;
            System.arraycopy(other.level, 0, level, 0, PHONES);
            System.arraycopy(other.fills, 0, fills, 0, PHONES);
            System.arraycopy(other.runs, 0, runs, 0, PHONES);
            System.arraycopy(other.callPhone, 0, callPhone, 0, CALLS);
            System.arraycopy(other.callTurn, 0, callTurn, 0, CALLS);
            System.arraycopy(other.callNeeds, 0, callNeeds, 0, CALLS);
            System.arraycopy(other.darkFrom, 0, darkFrom, 0, DARKS);
            System.arraycopy(other.darkTo, 0, darkTo, 0, DARKS);
        }

        boolean canBeOn(int set) {
            return set >= 0 && set < 1 << phones && Integer.bitCount(set) <= holes;
        }

        boolean isDark(int t) {
            for (int i = 0; i < darks; i++) {
                if (t >= darkFrom[i] && t <= darkTo[i]) {
                    return true;
                }
            }
            return false;
        }

        boolean isCallOf(int i, int k, int t) {
            return callPhone[i] == k && callTurn[i] == t;
        }

        int callsOf(int k) {
            int many = 0;
            for (int i = 0; i < calls; i++) {
                if (callPhone[i] == k) {
                    many++;
                }
            }
            return many;
        }

        int missedAt(int t, int k, int before) {
            int left = before;
            int missed = 0;
            for (int i = 0; i < calls; i++) {
                if (isCallOf(i, k, t)) {
                    if (left >= callNeeds[i]) {
                        left -= callNeeds[i];
                    } else {
                        missed++;
                    }
                }
            }
            return missed;
        }

        int leftByCalls(int t, int k, int before) {
            int left = before;
            for (int i = 0; i < calls; i++) {
                if (isCallOf(i, k, t) && left >= callNeeds[i]) {
                    left -= callNeeds[i];
                }
            }
            return left;
        }

        int filled(int k, int before) {
            int more = before < 80 ? fills[k] : Math.max(1, fills[k] / 2);
            return Math.min(TOP, before + more);
        }

        int drained(int k, int before) {
            return Math.max(0, before - runs[k]);
        }

        int levelBehind(int t, int k, int before, boolean on) {
            int left = leftByCalls(t, k, before);
            return on && !isDark(t) ? filled(k, left) : drained(k, left);
        }
    }

    /** THE TEXT, and how it is read; behind a fault tokenPlace is the fault's place. */
    private static final class Reader {
        private static final int END = -1;
        private static final int NUMBER = -2;
        private static final int WRONG = -3;

        final int[] letters = new int[LETTERS];
        int length = 0;
        int tokenPlace = 0;
        private int place = 0;
        private int token = END;
        private int value = 0;
        private boolean holesTold = false;

        boolean add(int letter) {
            if (length >= LETTERS) {
                return false;
            }
            letters[length] = letter;
            length++;
            return true;
        }

        /** How many items there are, or a number below 0 if there is a fault. */
        int readInto(Told to) {
            to.empty();
            place = 0;
            holesTold = false;
            // Each item takes letters, so there are fewer of them than letters.
            for (int items = 0; items <= LETTERS; items++) {
                next();
                boolean good = false;
                switch (token) {
                    case END: return items;
                    case 't': good = to.phones < PHONES && readPhone(to); break;
                    case 'h': good = !holesTold && readHoles(to); break;
                    case 'c': good = to.calls < CALLS && readCall(to); break;
                    case 'd': good = to.darks < DARKS && readDark(to); break;
                    default: break;
                }
                if (!good) {
                    return WRONG;
                }
            }
            return WRONG;
        }

        private boolean readPhone(Told to) {
            int k = to.phones;
            if (!nextIsNumber(0, TOP)) {
                return false;
            }
            to.level[k] = value;
            if (!nextIsNumber(1, 30)) {
                return false;
            }
            to.fills[k] = value;
            if (!nextIsNumber(0, 9)) {
                return false;
            }
            to.runs[k] = value;
            to.phones++;
            return nextIsItemEnd();
        }

        private boolean readHoles(Told to) {
            if (!nextIsNumber(1, 2)) {
                return false;
            }
            to.holes = value;
            holesTold = true;
            return nextIsItemEnd();
        }

        private boolean readCall(Told to) {
            int i = to.calls;
            if (!nextIsNumber(0, to.phones - 1)) {
                return false;
            }
            to.callPhone[i] = value;
            if (!nextIsNumber(0, LAST_TOLD_TURN)) {
                return false;
            }
            to.callTurn[i] = value;
            if (!nextIsNumber(1, 50)) {
                return false;
            }
            to.callNeeds[i] = value;
            to.calls++;
            return nextIsItemEnd();
        }

        private boolean readDark(Told to) {
            int i = to.darks;
            if (!nextIsNumber(0, LAST_TOLD_TURN)) {
                return false;
            }
            to.darkFrom[i] = value;
            if (!nextIsNumber(to.darkFrom[i], LAST_TOLD_TURN)) {
                return false;
            }
            to.darkTo[i] = value;
            to.darks++;
            return nextIsItemEnd();
        }

        private boolean nextIsNumber(int least, int greatest) {
            next();
            return token == NUMBER && isWithin(value, least, greatest);
        }

        private boolean nextIsItemEnd() {
            next();
            return token == ';';
        }

        private void next() {
            while (place < length && letters[place] == ' ') {
                place++;
            }
            tokenPlace = place;
            if (place >= length) {
                token = END;
            } else if (isDigit(letters[place])) {
                scanNumber();
            } else {
                token = isSign(letters[place]) ? letters[place] : WRONG;
                place++;
            }
        }

        private void scanNumber() {
            value = 0;
            while (place < length && isDigit(letters[place])) {
                // A long row of digits is held just above what a number may be, lest it wrap around.
                value = Math.min(TOP + 1, value * 10 + letters[place] - '0');
                place++;
            }
            boolean zeroAhead = letters[tokenPlace] == '0' && place - tokenPlace > 1;
            token = zeroAhead || value > TOP ? WRONG : NUMBER;
        }

        private static boolean isDigit(int letter) {
            return letter >= '0' && letter <= '9';
        }

        private static boolean isSign(int letter) {
            return letter == 't' || letter == 'h' || letter == 'c' || letter == 'd' || letter == ';';
        }
    }

    /** All that turns change, and that images and the book hold. */
    private static final class Now {
        private static final int LEVELS_AT = 4;
        private static final int TURNS_ON_AT = LEVELS_AT + PHONES;
        static final int ROW = TURNS_ON_AT + PHONES;

        int turn = 0;
        int on = 0;
        int gotUp = 0;
        int missed = 0;
        final int[] level = new int[PHONES];
        final int[] turnsOn = new int[PHONES];

        void begin(Told told) {
            turn = 0;
            on = 0;
            gotUp = 0;
            missed = 0;
            for (int k = 0; k < PHONES; k++) {
                level[k] = told.level[k];
                turnsOn[k] = 0;
            }
        }

        boolean isOn(int k) {
            return (on >> k & 1) == 1;
        }

        void goOn(Told told) {
            boolean current = !told.isDark(turn);
            for (int k = 0; k < told.phones; k++) {
                missed += told.missedAt(turn, k, level[k]);
                level[k] = told.levelBehind(turn, k, level[k], isOn(k));
                if (current && isOn(k)) {
                    turnsOn[k]++;
                }
            }
            turn++;
        }

        int out(int phones) {
            int bits = 0;
            for (int k = 0; k < phones; k++) {
                if (level[k] == 0) {
                    bits |= 1 << k;
                }
            }
            return bits;
        }

        int fair(int phones) {
            int most = 0;
            int fewest = phones == 0 ? 0 : turnsOn[0];
            for (int k = 0; k < phones; k++) {
                most = Math.max(most, turnsOn[k]);
                fewest = Math.min(fewest, turnsOn[k]);
            }
            return most - fewest;
        }

        int leans(int phones) {
            if (phones < 2) {
                return NONE;
            }
            int greatest = 0;
            int least = 0;
            for (int k = 1; k < phones; k++) {
                greatest = level[k] > level[greatest] ? k : greatest;
                least = level[k] < level[least] ? k : least;
            }
            return 10 * greatest + least;
        }

        void copyTo(int[] row) {
            row[0] = turn;
            row[1] = on;
            row[2] = gotUp;
            row[3] = missed;
            System.arraycopy(level, 0, row, LEVELS_AT, PHONES);
            System.arraycopy(turnsOn, 0, row, TURNS_ON_AT, PHONES);
        }

        void copyFrom(int[] row) {
            turn = row[0];
            on = row[1];
            gotUp = row[2];
            missed = row[3];
            System.arraycopy(row, LEVELS_AT, level, 0, PHONES);
            System.arraycopy(row, TURNS_ON_AT, turnsOn, 0, PHONES);
        }
    }

    /** How things stood ahead of each of the latest changes; the oldest page is written over first. */
    private static final class Book {
        private static final int MOST = 10;

        private final int[][] rows = new int[MOST][Now.ROW];
        private int newest = MOST - 1;
        int pages = 0;

        void write(Now state) {
            newest = (newest + 1) % MOST;
            state.copyTo(rows[newest]);
            pages = Math.min(MOST, pages + 1);
        }

        void takeBack(Now state) {
            state.copyFrom(rows[newest]);
            newest = (newest + MOST - 1) % MOST;
            pages--;
        }
    }

    /**
     * Finds the best row of sets. What is missed and who is out depends, for each telephone, only on the
     * turns at which it is on: these turns are a path in a tree of nodes (1 the root, 2 i off, 2 i + 1 on),
     * and the best that can still come of each node bounds the search.
     */
    private static final class Planner {
        private static final int NODES = 2 << PLANNED;
        private static final int ROOT = 1;
        // One number orders plans: neither who is out (5) nor what is got up (4) reaches 10.
        private static final int ONE_MISSED = 100;
        private static final int ONE_OUT = 10;

        final int[] best = new int[PLANNED];
        private final int[] row = new int[PLANNED];
        private final int[][] least = new int[PHONES][NODES];
        private final int[][] node = new int[PLANNED + 1][PHONES];
        private int bestCost = 0;
        private int turns = 0;
        private int firstTurn = 0;

        int missed() {
            return bestCost / ONE_MISSED;
        }

        int out() {
            return bestCost % ONE_MISSED / ONE_OUT;
        }

        int gotUp() {
            return bestCost % ONE_OUT;
        }

        void make(Told told, Now state, int n) {
            turns = n;
            firstTurn = state.turn;
            bestCost = 0;
            for (int k = 0; k < told.phones; k++) {
                node[0][k] = ROOT;
                bestCost += fillTree(told, k, ROOT, 0, state.level[k], 0);
            }
            if (n > 0) {
                bestCost = Integer.MAX_VALUE;
                search(told, 0, state.on, 0);
            }
        }

        /** The least that the plans through a node cost by one telephone, what led to the node included. */
        private int fillTree(Told told, int k, int at, int depth, int level, int soFar) {
            int cost;
            if (depth >= turns) {
                cost = soFar + (level == 0 ? ONE_OUT : 0);
            } else {
                int t = firstTurn + depth;
                int then = soFar + told.missedAt(t, k, level) * ONE_MISSED;
                int off = told.levelBehind(t, k, level, false);
                int on = told.levelBehind(t, k, level, true);
                cost = Math.min(fillTree(told, k, 2 * at, depth + 1, off, then),
                        fillTree(told, k, 2 * at + 1, depth + 1, on, then));
            }
            least[k][at] = cost;
            return cost;
        }

        /** Sets come in their order and only a cheaper plan replaces one, so the first of equals stays. */
        private void search(Told told, int depth, int before, int gotUp) {
            if (depth >= turns) {
                return;
            }
            for (int set = 0; set < 1 << told.phones; set++) {
                if (told.canBeOn(set)) {
                    int changes = set == before ? gotUp : gotUp + 1;
                    int cost = changes + enter(told.phones, depth, set);
                    if (cost < bestCost) {
                        row[depth] = set;
                        settleOrSearch(told, depth + 1, set, changes, cost);
                    }
                }
            }
        }

        private void settleOrSearch(Told told, int depth, int set, int changes, int cost) {
            if (depth < turns) {
                search(told, depth, set, changes);
            } else {
                bestCost = cost;
                System.arraycopy(row, 0, best, 0, PLANNED);
            }
        }

        /** Each telephone goes to its node behind this set: the least that all of them cost there. */
        private int enter(int phones, int depth, int set) {
            int cost = 0;
            for (int k = 0; k < phones; k++) {
                int at = 2 * node[depth][k] + (set >> k & 1);
                node[depth + 1][k] = at;
                cost += least[k][at];
            }
            return cost;
        }
    }

    /** The kinds: each body leaves its own number in the trace, and asks the kind above it once. */
    private static class Telephone {
        int worth(OneSocket room, int k) {
            room.traced += 1;
            return room.state.level[k];
        }
    }

    private static class Alarm extends Telephone {
        int worth(OneSocket room, int k) {
            room.traced += 10;
            return super.worth(room, k) + room.told.callsOf(k);
        }
    }

    private static class Lamp extends Telephone {
        int worth(OneSocket room, int k) {
            room.traced += 100;
            return super.worth(room, k) - room.told.runs[k];
        }
    }

    private static final class BabyPhone extends Alarm {
        int worth(OneSocket room, int k) {
            room.traced += 1000;
            return 2 * super.worth(room, k);
        }
    }

    private static final class Radio extends Lamp {
        int worth(OneSocket room, int k) {
            room.traced += 10000;
            return super.worth(room, k) + k;
        }
    }

    private static final class SixthOne extends Telephone {
        int worth(OneSocket room, int k) {
            room.traced += 100000;
            return super.worth(room, k) + room.state.turnsOn[k];
        }
    }
}
