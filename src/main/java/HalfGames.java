import java.util.Arrays;

/** Games of two with chance and half sight, told in a text; ../shared/DOC.md has the promises. */
public final class HalfGames {
    public static final int NONE = -1000000;
    public static final long NOT = -9000000000000000000L;

    private static final long BAD = NOT - 1;
    private static final long STATE = NOT - 2;
    private static final long FULL = NOT - 3;

    private static final int NULL_FOUND = 1;
    private static final int PLACE_FOUND = 2;
    private static final int KIND_FOUND = 3;
    private static final int SIZE_FOUND = 4;
    private static final int STORE_FOUND = 5;

    private static final int MOST_ROWS = 8;
    private static final int MOST_ITEMS = 40;
    private static final int LANES = 3;
    private static final int MOST_BYTES = 600;
    private static final int MOST_PLACES = 60;
    private static final int MOST_BELOW = 9;
    private static final int MOST_WAYS = 4;
    private static final int MOST_ACTS = 3;
    private static final int MOST_SETS = 10;
    private static final int MOST_ROUNDS = 60;
    private static final int MOST_TRACED = 16;
    private static final int MOST_BODIES = 8;
    private static final int TWELVE = 12;
    private static final long WHOLE = 429981696L;

    // What a PLACE is; the Tape tells its word by the same number.
    private static final int END = 0;
    private static final int DEAL = 1;
    private static final int ONE = 2;
    private static final int TWO = 3;

    // What else a TOKEN may be.
    private static final int NUMBER = 4;
    private static final int SEMICOLON = 5;
    private static final int NO_MORE = 6;
    private static final int NO_TOKEN = 7;

    private static final int CANNOT_STAND = 1;
    private static final int WRONG_NUMBER = 2;
    private static final int TOO_MUCH = 3;

    private static final int KIND_PLACE = 0;
    private static final int KIND_DEAL = 1;
    private static final int KIND_HELD = 2;
    private static final int KIND_SEEN = 3;
    private static final int KIND_END = 4;
    private static final int KIND_DEAR = 5;
    private static final int DEAR_PAY = 50;

    private final Shelf shelf;
    private final Tape tape;
    private final Reader reader;
    private final Plan plan;
    private final Solver solver;
    private final History history;
    private final Asker asker;
    private final long[] reached;
    // The GAME that stands, and the one that the next text is read into: a FAULT must leave the first.
    private Game standing;
    private Game spare;
    private int latestFault;
    private int latestFinding;

    public HalfGames() {
        shelf = new Shelf();
        tape = new Tape();
        reader = new Reader();
        plan = new Plan();
        solver = new Solver();
        history = new History();
        asker = new Asker();
        reached = new long[MOST_PLACES];
        standing = new Game();
        spare = new Game();
        latestFault = 0;
        latestFinding = 0;
    }

    // ---- rows

    public long row(int row, int lane, int n) {
        if (!isRow(row) || lane < 0 || lane >= LANES || n > MOST_ITEMS) {
            return BAD;
        }
        if (n < 0) {
            return found(SIZE_FOUND);
        }
        shelf.lay(row, lane, n);
        return fine(n);
    }

    public long set(int row, int i, int v) {
        if (!isRow(row)) {
            return BAD;
        }
        if (shelf.isMissing(row)) {
            return found(NULL_FOUND);
        }
        if (!shelf.hasItems(row, i, 1)) {
            return found(PLACE_FOUND);
        }
        return fine(shelf.put(row, i, v));
    }

    public long copy(int a, int i, int b, int j, int n) {
        if (!isRow(a) || !isRow(b)) {
            return BAD;
        }
        if (shelf.isMissing(a) || shelf.isMissing(b)) {
            return found(NULL_FOUND);
        }
        if (shelf.lane[a] != shelf.lane[b]) {
            return found(STORE_FOUND);
        }
        if (!shelf.hasItems(a, i, n) || !shelf.hasItems(b, j, n)) {
            return found(PLACE_FOUND);
        }
        shelf.bring(a, i, b, j, n);
        return fine(n);
    }

    public long drop(int row) {
        if (!isRow(row)) {
            return BAD;
        }
        if (shelf.isMissing(row)) {
            return found(NULL_FOUND);
        }
        return fine(shelf.remove(row));
    }

    // ---- games

    public long feed(long w, int n) {
        if (n < 1 || n > 8) {
            return BAD;
        }
        if (tape.length + n > MOST_BYTES) {
            return FULL;
        }
        tape.push(w, n);
        return tape.length;
    }

    public long game() {
        boolean isRead = reader.readText(tape, spare);
        tape.length = 0;
        if (!isRead) {
            latestFault = reader.fault;
            return NOT - 100 - reader.faultAt;
        }
        Game before = standing;
        standing = spare;
        spare = before;
        plan.begin();
        history.begin();
        return standing.count;
    }

    public int fault() {
        return latestFault;
    }

    public long place(int place, int what) {
        if (!isPlace(place)) {
            return BAD;
        }
        switch (what) {
            case 0:
                return standing.what[place];
            case 1:
                return standing.pay[place];
            case 2:
                return standing.set[place];
            case 3:
                return standing.ways[place];
            case 4:
                return standing.above[place];
            case 5:
                return standing.depth[place];
            default:
                return BAD;
        }
    }

    public long seen(int set, int what) {
        if (set < 0 || set >= MOST_SETS) {
            return BAD;
        }
        switch (what) {
            case 0:
                return standing.player[set];
            case 1:
                return standing.acts[set];
            case 2:
                return standing.places[set];
            default:
                return BAD;
        }
    }

    public long forgets(int player) {
        if (!isPlayer(player)) {
            return BAD;
        }
        return standing.forgetful[player] ? 1 : 0;
    }

    // ---- plans

    public long mix(int set, int row, int i) {
        if (!isSet(set) || !isRow(row)) {
            return BAD;
        }
        if (shelf.isMissing(row)) {
            return found(NULL_FOUND);
        }
        int acts = standing.acts[set];
        if (!shelf.hasItems(row, i, acts)) {
            return found(PLACE_FOUND);
        }
        if (!shelf.hasShares(row, i, acts)) {
            return BAD;
        }
        for (int act = 0; act < acts; act++) {
            plan.give(set, act, shelf.itemAt(row, i + act));
        }
        return fine(1);
    }

    public long share(int set, int act) {
        return isAct(set, act) ? plan.shareOf(set, act) : BAD;
    }

    public long value() {
        return hasGame() ? valueOfPlan() : STATE;
    }

    public long reach(int place, int what) {
        if (!isPlace(place) || what < 0 || what > 2) {
            return BAD;
        }
        plan.workOut(standing, what == 0 ? NONE : what - 1, reached);
        return reached[place];
    }

    public long best(int player, int what) {
        if (!isPlayer(player) || what < 0 || what > 2) {
            return BAD;
        }
        int answering = what == 2 ? 1 - player : player;
        if (!hasGame() || standing.forgetful[answering]) {
            return STATE;
        }
        long most = valueOfAnswer(answering);
        return what == 0 ? most : gainOf(answering, valueOfPlan(), most);
    }

    public long answer(int set) {
        if (!isSet(set)) {
            return BAD;
        }
        int player = standing.player[set];
        if (standing.forgetful[player]) {
            return STATE;
        }
        valueOfAnswer(player);
        return solver.actOf(standing, set);
    }

    public long belief(int place, int what) {
        if (!isPlace(place) || !standing.isHeld(place) || what < 0 || what > 1) {
            return BAD;
        }
        plan.workOut(standing, NONE, reached);
        if (what == 0) {
            return reached[place];
        }
        long all = 0;
        for (int p = 0; p < standing.count; p++) {
            if (standing.set[p] == standing.set[place]) {
                all += reached[p];
            }
        }
        return all;
    }

    public long seeing(int set) {
        if (!isSet(set)) {
            return BAD;
        }
        int player = standing.player[set];
        if (standing.forgetful[player]) {
            return STATE;
        }
        long blind = valueOfAnswer(player);
        return gainOf(player, blind, solver.solve(standing, player, reached, set));
    }

    public long fewer(int set, int act) {
        if (!isAct(set, act)) {
            return BAD;
        }
        int player = standing.player[set];
        if (standing.forgetful[player]) {
            return STATE;
        }
        plan.workOut(standing, player, reached);
        return solver.solveBarred(standing, player, reached, set, act);
    }

    // ---- rounds

    public long rounds(int n) {
        if (n < 1 || n > MOST_ROUNDS) {
            return BAD;
        }
        if (!hasGame() || standing.forgetful[0] || standing.forgetful[1]) {
            return STATE;
        }
        int until = Math.min(MOST_ROUNDS, history.count + n);
        for (int k = history.count; k < until; k++) {
            history.playOn(standing, solver);
        }
        return history.count;
    }

    public long bound(int what) {
        if (what < 0 || what > 2) {
            return BAD;
        }
        if (what == 2) {
            return history.count;
        }
        if (history.count == 0) {
            return STATE;
        }
        int answering = 1 - what;
        return solver.solve(standing, answering, history.reachOf(answering), NONE);
    }

    public long mean(int set, int act) {
        return isAct(set, act) ? history.timesDone(set, act) : BAD;
    }

    public long take(int k) {
        if (k < 0 || k >= history.count) {
            return BAD;
        }
        history.putInto(plan, k);
        return 1;
    }

    // ---- asked

    public long kind(int place) {
        return isPlace(place) ? standing.kindOf(place) : BAD;
    }

    public long as(int place, int kind) {
        if (!isPlace(place) || kind < KIND_PLACE || kind > KIND_DEAR) {
            return BAD;
        }
        return standing.isOfKind(place, kind) ? fine(standing.depth[place]) : found(KIND_FOUND);
    }

    public long ask(int place, int what) {
        if (!isPlace(place) || what < 0 || what > 1) {
            return BAD;
        }
        return what == 0 ? asker.askSize(standing, place) : asker.askMark(standing, place);
    }

    public int trace(int i) {
        return i < 0 || i >= asker.traced ? NONE : asker.numbers[i];
    }

    public long count(int what) {
        switch (what) {
            case 0:
                return shelf.countRows();
            case 1:
                return standing.count;
            case 2:
                return standing.countOf(END);
            case 3:
                return standing.countOf(DEAL);
            case 4:
                return standing.countSets();
            case 5:
                return history.count;
            case 6:
                return tape.length;
            default:
                return BAD;
        }
    }

    public int status() {
        return latestFinding;
    }

    // ---- what the calls share

    private long found(int finding) {
        latestFinding = finding;
        return NOT - 10 - finding;
    }

    private long fine(long told) {
        latestFinding = 0;
        return told;
    }

    private boolean hasGame() {
        return standing.count > 0;
    }

    private boolean isPlace(int place) {
        return place >= 0 && place < standing.count;
    }

    private boolean isSet(int set) {
        return set >= 0 && set < MOST_SETS && standing.places[set] > 0;
    }

    private boolean isAct(int set, int act) {
        return isSet(set) && act >= 0 && act < standing.acts[set];
    }

    private static boolean isRow(int row) {
        return row >= 0 && row < MOST_ROWS;
    }

    private static boolean isPlayer(int player) {
        return player == 0 || player == 1;
    }

    private long valueOfPlan() {
        plan.workOut(standing, NONE, reached);
        long all = 0;
        for (int p = 0; p < standing.count; p++) {
            if (standing.what[p] == END) {
                all += standing.pay[p] * reached[p];
            }
        }
        return all;
    }

    /** Leaves the player's OWN REACH in the row reached, and the best acts in the solver. */
    private long valueOfAnswer(int player) {
        plan.workOut(standing, player, reached);
        return solver.solve(standing, player, reached, NONE);
    }

    private static long gainOf(int player, long before, long after) {
        return player == 0 ? after - before : before - after;
    }

    /** The ROWS: all ITEMS stand in one array, so that no call has to make one. */
    private static final class Shelf {
        final int[] lane = new int[MOST_ROWS];
        final int[] length = new int[MOST_ROWS];
        final int[] items = new int[MOST_ROWS * MOST_ITEMS];

        Shelf() {
            Arrays.fill(lane, NONE);
        }

        boolean isMissing(int row) {
            return lane[row] == NONE;
        }

        /** In long, because i and n may be any numbers. */
        boolean hasItems(int row, int i, int n) {
            return i >= 0 && n >= 0 && (long) i + n <= length[row];
        }

        void lay(int row, int newLane, int n) {
            lane[row] = newLane;
            length[row] = n;
            for (int i = 0; i < MOST_ITEMS; i++) {
                items[row * MOST_ITEMS + i] = 0;
            }
        }

        int put(int row, int i, int v) {
            int kept = lane[row] == 0 ? (byte) v : lane[row] == 1 ? (short) v : v;
            items[row * MOST_ITEMS + i] = kept;
            return kept;
        }

        int itemAt(int row, int i) {
            return items[row * MOST_ITEMS + i];
        }

        void bring(int a, int i, int b, int j, int n) {
            System.arraycopy(items, a * MOST_ITEMS + i, items, b * MOST_ITEMS + j, n);
        }

        int remove(int row) {
            int had = length[row];
            lane[row] = NONE;
            length[row] = 0;
            return had;
        }

        int countRows() {
            int rows = 0;
            for (int row = 0; row < MOST_ROWS; row++) {
                if (!isMissing(row)) {
                    rows++;
                }
            }
            return rows;
        }

        boolean hasShares(int row, int i, int n) {
            int all = 0;
            for (int k = 0; k < n; k++) {
                int item = itemAt(row, i + k);
                if (item < 0 || item > TWELVE) {
                    return false;
                }
                all += item;
            }
            return all == TWELVE;
        }
    }

    /** The tape, and the TOKEN at which its reading stands. */
    private static final class Tape {
        final byte[] bytes = new byte[MOST_BYTES];
        int length = 0;
        int token = NO_MORE;
        int start = 0;
        int number = 0;
        private int next = 0;

        void push(long w, int n) {
            for (int k = n - 1; k >= 0; k--) {
                bytes[length] = (byte) (w >>> (8 * k));
                length++;
            }
        }

        void rewind() {
            next = 0;
            step();
        }

        void step() {
            while (next < length && (bytes[next] == 32 || bytes[next] == 10)) {
                next++;
            }
            start = next;
            if (next >= length) {
                token = NO_MORE;
            } else if (isLetter(bytes[next])) {
                stepOverName();
            } else if (isFigure(bytes[next])) {
                stepOverNumber();
            } else {
                token = bytes[next] == ';' ? SEMICOLON : NO_TOKEN;
                next++;
            }
        }

        private void stepOverName() {
            while (next < length && isLetter(bytes[next])) {
                next++;
            }
            token = isName("end") ? END : isName("deal") ? DEAL
                    : isName("one") ? ONE : isName("two") ? TWO : NO_TOKEN;
        }

        private void stepOverNumber() {
            number = 0;
            while (next < length && isFigure(bytes[next])) {
                // No more than two figures count, so that a long row of them cannot run over.
                if (next - start < 2) {
                    number = number * 10 + bytes[next] - '0';
                }
                next++;
            }
            token = next - start <= 2 ? NUMBER : NO_TOKEN;
        }

        private boolean isName(String name) {
            if (next - start != name.length()) {
                return false;
            }
            for (int k = 0; k < name.length(); k++) {
                if (bytes[start + k] != name.charAt(k)) {
                    return false;
                }
            }
            return true;
        }

        private static boolean isLetter(int b) {
            return b >= 'a' && b <= 'z';
        }

        private static boolean isFigure(int b) {
            return b >= '0' && b <= '9';
        }
    }

    /** Reads the text on a tape into a Game, up to the first FAULT. */
    private static final class Reader {
        int fault = 0;
        int faultAt = 0;

        boolean readText(Tape from, Game into) {
            into.empty();
            from.rewind();
            if (!readPlace(from, into, NONE, 0, 0)) {
                return false;
            }
            if (from.token != SEMICOLON) {
                return fail(from, CANNOT_STAND);
            }
            from.step();
            if (from.token != NO_MORE) {
                return fail(from, CANNOT_STAND);
            }
            into.finish();
            return true;
        }

        private boolean fail(Tape from, int newFault) {
            fault = newFault;
            faultAt = from.start;
            return false;
        }

        /** The depth is carried by the PLACE above: none below MOST_BELOW - 1 has PLACES of its own. */
        private boolean readPlace(Tape from, Game into, int above, int turn, int share) {
            int word = from.token;
            if (word != END && word != DEAL && word != ONE && word != TWO) {
                return fail(from, CANNOT_STAND);
            }
            int depth = above == NONE ? 0 : into.depth[above] + 1;
            if (into.count >= MOST_PLACES || depth >= MOST_BELOW - 1 && word != END) {
                return fail(from, TOO_MUCH);
            }
            int place = into.add(word, depth, above, turn, share);
            from.step();
            if (word == END) {
                return readPay(from, into, place);
            }
            return word == DEAL ? readDeal(from, into, place) : readHeld(from, into, place);
        }

        private boolean readPay(Tape from, Game into, int place) {
            if (from.token != NUMBER) {
                return fail(from, CANNOT_STAND);
            }
            into.pay[place] = from.number;
            from.step();
            return true;
        }

        private boolean readDeal(Tape from, Game into, int place) {
            if (from.token != NUMBER) {
                return fail(from, CANNOT_STAND);
            }
            int ways = from.number;
            if (ways < 2 || ways > MOST_WAYS) {
                return fail(from, WRONG_NUMBER);
            }
            into.ways[place] = ways;
            from.step();
            int left = TWELVE;
            for (int turn = 0; turn < ways; turn++) {
                if (from.token != NUMBER) {
                    return fail(from, CANNOT_STAND);
                }
                int share = from.number;
                boolean isShort = turn == ways - 1 && share < left;
                if (share < 1 || share >= TWELVE || share > left || isShort) {
                    return fail(from, WRONG_NUMBER);
                }
                left -= share;
                from.step();
                if (!readPlace(from, into, place, turn, share)) {
                    return false;
                }
            }
            return true;
        }

        private boolean readHeld(Tape from, Game into, int place) {
            if (from.token != NUMBER) {
                return fail(from, CANNOT_STAND);
            }
            int set = from.number;
            if (set >= MOST_SETS || !into.maySetBeOf(set, into.what[place] - ONE)) {
                return fail(from, WRONG_NUMBER);
            }
            from.step();
            if (from.token != NUMBER) {
                return fail(from, CANNOT_STAND);
            }
            int acts = from.number;
            if (acts < 2 || acts > MOST_ACTS || !into.maySetHave(set, acts)) {
                return fail(from, WRONG_NUMBER);
            }
            into.putIntoSet(place, set, acts);
            from.step();
            for (int turn = 0; turn < acts; turn++) {
                if (!readPlace(from, into, place, turn, 0)) {
                    return false;
                }
            }
            return true;
        }
    }

    /** A GAME: its PLACES, each behind the one above it, and its SETS. None at all: no GAME. */
    private static final class Game {
        int count = 0;
        final int[] what = new int[MOST_PLACES];
        final int[] pay = new int[MOST_PLACES];
        final int[] set = new int[MOST_PLACES];
        final int[] ways = new int[MOST_PLACES];
        final int[] above = new int[MOST_PLACES];
        final int[] depth = new int[MOST_PLACES];
        // By which way, with which share of a deal, one comes to a PLACE from the one above it.
        final int[] turn = new int[MOST_PLACES];
        final int[] share = new int[MOST_PLACES];
        final int[] below = new int[MOST_PLACES * MOST_WAYS];
        final int[] size = new int[MOST_PLACES];
        // Of each player, by PLACE: how many own acts lead to it, and which.
        final int[] ownActs = new int[2 * MOST_PLACES];
        final long[] ownPast = new long[2 * MOST_PLACES];
        final int[] player = new int[MOST_SETS];
        final int[] acts = new int[MOST_SETS];
        final int[] places = new int[MOST_SETS];
        final int[] first = new int[MOST_SETS];
        final boolean[] forgetful = new boolean[2];

        Game() {
            Arrays.fill(player, NONE);
        }

        void empty() {
            count = 0;
            Arrays.fill(player, NONE);
            Arrays.fill(acts, 0);
            Arrays.fill(places, 0);
            Arrays.fill(first, 0);
            forgetful[0] = false;
            forgetful[1] = false;
        }

        int add(int word, int newDepth, int newAbove, int newTurn, int newShare) {
            int place = count;
            count++;
            what[place] = word;
            pay[place] = NONE;
            set[place] = NONE;
            ways[place] = 0;
            above[place] = newAbove;
            depth[place] = newDepth;
            turn[place] = newTurn;
            share[place] = newShare;
            size[place] = 1;
            if (newAbove != NONE) {
                below[newAbove * MOST_WAYS + newTurn] = place;
            }
            return place;
        }

        boolean maySetBeOf(int newSet, int newPlayer) {
            return player[newSet] == NONE || player[newSet] == newPlayer;
        }

        boolean maySetHave(int newSet, int newActs) {
            return acts[newSet] == 0 || acts[newSet] == newActs;
        }

        void putIntoSet(int place, int newSet, int newActs) {
            set[place] = newSet;
            ways[place] = newActs;
            if (places[newSet] == 0) {
                first[newSet] = place;
            }
            player[newSet] = what[place] - ONE;
            acts[newSet] = newActs;
            places[newSet]++;
        }

        void finish() {
            for (int p = count - 1; p > 0; p--) {
                size[above[p]] += size[p];
            }
            tellPast(0);
            tellPast(1);
            for (int p = 0; p < count; p++) {
                if (isHeld(p)) {
                    int whose = what[p] - ONE;
                    long firstPast = ownPast[whose * MOST_PLACES + first[set[p]]];
                    if (ownPast[whose * MOST_PLACES + p] != firstPast) {
                        forgetful[whose] = true;
                    }
                }
            }
        }

        /** A past is one number: a figure of base 31 for each SET and act, at most 8 of them. */
        private void tellPast(int whose) {
            int base = whose * MOST_PLACES;
            ownActs[base] = 0;
            ownPast[base] = 0;
            for (int p = 1; p < count; p++) {
                int a = above[p];
                ownActs[base + p] = ownActs[base + a];
                ownPast[base + p] = ownPast[base + a];
                if (what[a] == ONE + whose) {
                    ownActs[base + p]++;
                    ownPast[base + p] = ownPast[base + a] * 31 + set[a] * MOST_ACTS + turn[p] + 1;
                }
            }
        }

        int ownActsTo(int whose, int place) {
            return ownActs[whose * MOST_PLACES + place];
        }

        int mostOwnActs(int whose) {
            int most = 0;
            for (int p = 0; p < count; p++) {
                most = Math.max(most, ownActsTo(whose, p));
            }
            return most;
        }

        boolean isHeld(int place) {
            return what[place] == ONE || what[place] == TWO;
        }

        int wayTo(int place, int way) {
            return below[place * MOST_WAYS + way];
        }

        int kindOf(int place) {
            if (what[place] == END) {
                return pay[place] >= DEAR_PAY ? KIND_DEAR : KIND_END;
            }
            if (what[place] == DEAL) {
                return KIND_DEAL;
            }
            return places[set[place]] > 1 ? KIND_SEEN : KIND_HELD;
        }

        boolean isOfKind(int place, int kind) {
            int told = kindOf(place);
            return kind == told || kind == KIND_PLACE
                    || kind == KIND_HELD && told == KIND_SEEN
                    || kind == KIND_END && told == KIND_DEAR;
        }

        int countOf(int word) {
            int all = 0;
            for (int p = 0; p < count; p++) {
                if (what[p] == word) {
                    all++;
                }
            }
            return all;
        }

        int countSets() {
            int all = 0;
            for (int s = 0; s < MOST_SETS; s++) {
                if (places[s] > 0) {
                    all++;
                }
            }
            return all;
        }
    }

    /** The shares of all acts of all SETS. */
    private static final class Plan {
        final int[] shares = new int[MOST_SETS * MOST_ACTS];

        void begin() {
            for (int set = 0; set < MOST_SETS; set++) {
                giveAllTo(set, 0);
            }
        }

        void give(int set, int act, int newShare) {
            shares[set * MOST_ACTS + act] = newShare;
        }

        void giveAllTo(int set, int act) {
            for (int other = 0; other < MOST_ACTS; other++) {
                give(set, other, other == act ? TWELVE : 0);
            }
        }

        int shareOf(int set, int act) {
            return shares[set * MOST_ACTS + act];
        }

        /** REACH of all PLACES; of a player who is left out, each share is as 12. */
        void workOut(Game g, int leftOut, long[] into) {
            into[0] = WHOLE;
            for (int p = 1; p < g.count; p++) {
                int a = g.above[p];
                int part = TWELVE;
                if (g.what[a] == DEAL) {
                    part = g.share[p];
                } else if (g.what[a] - ONE != leftOut) {
                    part = shareOf(g.set[a], g.turn[p]);
                }
                // At most 8 ways lead to a PLACE, so what is divided here still holds a 12.
                into[p] = into[a] / TWELVE * part;
            }
        }
    }

    /** Finds BEST ANSWERS of a player who does not forget. */
    private static final class Solver {
        final long[] worth = new long[MOST_PLACES];
        // PLACES that the player cannot tell apart have the least of them as their group.
        final int[] group = new int[MOST_PLACES];
        final int[] bestAct = new int[MOST_PLACES];
        final long[] sums = new long[MOST_PLACES * MOST_ACTS];
        final int[] through = new int[MOST_PLACES];
        private int barredSet = NONE;
        private int barredAct = NONE;

        /**
         * All PLACES of a group are behind as many own acts, so those behind the most of them go first.
         * The PLACES of the SET apart are known apart; NONE: of no SET.
         */
        long solve(Game g, int player, long[] ownReach, int apart) {
            tellGroups(g, apart);
            for (int level = g.mostOwnActs(player); level >= 0; level--) {
                addUp(g, player, level);
                chooseActs(g, player, level);
                weigh(g, player, level, ownReach);
            }
            return worth[0];
        }

        long solveBarred(Game g, int player, long[] ownReach, int set, int act) {
            barredSet = set;
            barredAct = act;
            long made = solve(g, player, ownReach, NONE);
            barredSet = NONE;
            barredAct = NONE;
            return made;
        }

        int actOf(Game g, int set) {
            return bestAct[g.first[set]];
        }

        private void tellGroups(Game g, int apart) {
            for (int p = 0; p < g.count; p++) {
                through[p] = p == 0 ? NONE : through[g.above[p]];
                if (apart != NONE && g.set[p] == apart) {
                    through[p] = p;
                }
                group[p] = g.isHeld(p) ? leastAlike(g, p) : p;
            }
        }

        private int leastAlike(Game g, int place) {
            for (int p = g.first[g.set[place]]; p < place; p++) {
                if (g.set[p] == g.set[place] && through[p] == through[place]) {
                    return p;
                }
            }
            return place;
        }

        private void addUp(Game g, int player, int level) {
            for (int p = 0; p < g.count; p++) {
                if (isOwn(g, player, level, p)) {
                    int base = group[p] * MOST_ACTS;
                    for (int act = 0; act < g.ways[p]; act++) {
                        long before = group[p] == p ? 0 : sums[base + act];
                        sums[base + act] = before + worth[g.wayTo(p, act)];
                    }
                }
            }
        }

        private void chooseActs(Game g, int player, int level) {
            for (int p = 0; p < g.count; p++) {
                if (group[p] == p && isOwn(g, player, level, p)) {
                    bestAct[p] = chooseAct(g, player, p);
                }
            }
        }

        private int chooseAct(Game g, int player, int place) {
            int base = place * MOST_ACTS;
            int chosen = isBarred(g, place, 0) ? 1 : 0;
            for (int act = chosen + 1; act < g.ways[place]; act++) {
                long more = gainOf(player, sums[base + chosen], sums[base + act]);
                if (more > 0 && !isBarred(g, place, act)) {
                    chosen = act;
                }
            }
            return chosen;
        }

        private boolean isBarred(Game g, int place, int act) {
            return g.set[place] == barredSet && act == barredAct;
        }

        private void weigh(Game g, int player, int level, long[] ownReach) {
            for (int p = g.count - 1; p >= 0; p--) {
                if (g.ownActsTo(player, p) == level) {
                    worth[p] = worthOf(g, player, p, ownReach[p]);
                }
            }
        }

        private long worthOf(Game g, int player, int place, long ownReach) {
            if (g.what[place] == END) {
                return g.pay[place] * ownReach;
            }
            if (g.what[place] == ONE + player) {
                return worth[g.wayTo(place, bestAct[group[place]])];
            }
            long all = 0;
            for (int way = 0; way < g.ways[place]; way++) {
                all += worth[g.wayTo(place, way)];
            }
            return all;
        }

        private static boolean isOwn(Game g, int player, int level, int place) {
            return g.what[place] == ONE + player && g.ownActsTo(player, place) == level;
        }
    }

    /** The ROUNDS, and each player's OWN REACH by all of them, added. */
    private static final class History {
        int count = 0;
        final int[] done = new int[MOST_ROUNDS * MOST_SETS];
        final long[] reachOfOne = new long[MOST_PLACES];
        final long[] reachOfTwo = new long[MOST_PLACES];
        final Plan latest = new Plan();
        final long[] latestReach = new long[MOST_PLACES];

        void begin() {
            count = 0;
            Arrays.fill(reachOfOne, 0);
            Arrays.fill(reachOfTwo, 0);
        }

        void playOn(Game g, Solver solver) {
            if (count >= MOST_ROUNDS) {
                return;
            }
            for (int set = 0; set < MOST_SETS; set++) {
                done[count * MOST_SETS + set] = 0;
            }
            if (count > 0) {
                noteAnswer(g, solver, 0);
                noteAnswer(g, solver, 1);
            }
            putInto(latest, count);
            addReach(g, 0);
            addReach(g, 1);
            count++;
        }

        private void noteAnswer(Game g, Solver solver, int player) {
            solver.solve(g, player, reachOf(player), NONE);
            for (int set = 0; set < MOST_SETS; set++) {
                if (g.player[set] == player) {
                    done[count * MOST_SETS + set] = solver.actOf(g, set);
                }
            }
        }

        private void addReach(Game g, int player) {
            long[] into = reachOf(player);
            latest.workOut(g, player, latestReach);
            for (int p = 0; p < g.count; p++) {
                into[p] += latestReach[p];
            }
        }

        long[] reachOf(int player) {
            return player == 0 ? reachOfOne : reachOfTwo;
        }

        int timesDone(int set, int act) {
            int times = 0;
            for (int k = 0; k < count; k++) {
                if (done[k * MOST_SETS + set] == act) {
                    times++;
                }
            }
            return times;
        }

        void putInto(Plan plan, int k) {
            for (int set = 0; set < MOST_SETS; set++) {
                plan.giveAllTo(set, done[k * MOST_SETS + set]);
            }
        }
    }

    /** ASKS of PLACES, and the TRACE of the BODIES that began. */
    private static final class Asker {
        final int[] numbers = new int[MOST_TRACED];
        int traced = 0;

        long askSize(Game g, int place) {
            traced = 0;
            return runBody(g, sizeBody(g, place), place, 0);
        }

        long askMark(Game g, int place) {
            traced = 0;
            return runBody(g, markBody(g, place), place, 0);
        }

        private static int sizeBody(Game g, int place) {
            switch (g.kindOf(place)) {
                case KIND_DEAL:
                    return 11;
                case KIND_HELD:
                    return 12;
                case KIND_SEEN:
                    return 13;
                case KIND_END:
                    return 14;
                case KIND_DEAR:
                    return 15;
                default:
                    return 10;
            }
        }

        private static int markBody(Game g, int place) {
            switch (g.kindOf(place)) {
                case KIND_HELD:
                case KIND_SEEN:
                    return 21;
                case KIND_DEAR:
                    return 22;
                default:
                    return 20;
            }
        }

        /** Four BODIES within one another are the most that the document tells; the depth stands guard. */
        private long runBody(Game g, int body, int place, int depth) {
            if (depth > MOST_BODIES) {
                return 0;
            }
            leave(body);
            int next = depth + 1;
            switch (body) {
                case 11:
                    return runBody(g, 10, place, next) + g.ways[place];
                case 12:
                    return runBody(g, 10, place, next) + runBody(g, markBody(g, place), place, next);
                case 13:
                    return runBody(g, 12, place, next) * g.places[g.set[place]];
                case 14:
                    return g.pay[place];
                case 15:
                    return runBody(g, 14, place, next) * 2;
                case 20:
                    return place;
                case 21:
                    return runBody(g, 20, place, next) + 100L * g.set[place];
                case 22:
                    return runBody(g, 20, place, next) + runBody(g, sizeBody(g, place), place, next);
                default:
                    return g.size[place];
            }
        }

        private void leave(int body) {
            if (traced < MOST_TRACED) {
                numbers[traced] = body;
                traced++;
            }
        }
    }
}
