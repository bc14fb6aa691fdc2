/**
 * Refusals: the first of BAD, STATE, FULL and the FINDINGS that fits; what is refused, or found, changes nothing but
 * status(). Each refusal of each promise is asked of objects with many things in them, and all that later calls can
 * tell of them is told ahead of it and behind.
 */
public final class RefusalTest extends Checks {
    private interface Call {
        long on(HalfGames x);
    }

    private static Picture.Past past;
    private static Picture ahead;
    private static int statusAhead;

    private static void begin(String sentence, Picture.Past newPast) {
        about(sentence);
        past = newPast;
        ahead = Picture.of(past);
        statusAhead = statusOf(past);
    }

    private static int statusOf(Picture.Past of) {
        HalfGames x = new HalfGames();
        of.on(x);
        return x.status();
    }

    private static void refused(String name, long want, Call call) {
        HalfGames x = new HalfGames();
        past.on(x);
        due(name, call.on(x), want);
        boolean isFound = want < HalfGames.NOT - 10;
        due("status() behind " + name, x.status(), isFound ? HalfGames.NOT - 10 - want : statusAhead);
        dueSame(name, call, "status");
    }

    private static void dueSame(String name, Call call, String... leftOut) {
        Picture behind = Picture.of(x -> {
            past.on(x);
            call.on(x);
        });
        String difference = Picture.difference(ahead, behind, leftOut);
        if (difference != null) {
            fail(name + " changed something: " + difference);
        }
    }

    /** A GAME with a PLAN, ROUNDS, a TRACE, a FAULT, a tape, and ROWS 0 to 4; ROWS 5 to 7 are missing. */
    private static void fill(HalfGames x, String text) {
        read(x, "deal 9");
        read(x, text);
        x.row(0, 0, 4);
        x.set(0, 0, 5);
        x.set(0, 1, 7);
        x.set(0, 2, 9);
        x.set(0, 3, 255);
        x.row(1, 1, 2);
        x.set(1, 1, 11);
        x.row(2, 2, 40);
        x.set(2, 0, 12);
        x.set(2, 39, 1);
        x.row(3, 0, 0);
        x.row(4, 0, 3);
        x.set(4, 1, 6);
        x.set(4, 2, 6);
        x.rounds(4);
        x.mix(0, 4, 1);
        x.mix(1, 0, 0);
        x.ask(1, 0);
        feed(x, "one 0 2 end 4 end 56;");
    }

    private static void cards(HalfGames x) {
        fill(x, CARDS);
    }

    private static void cardsThenStore(HalfGames x) {
        fill(x, CARDS);
        x.copy(0, 0, 1, 0, 1);
    }

    private static void forgotten(HalfGames x) {
        fill(x, FORGOTTEN);
        x.as(0, 1);
    }

    private static void full(HalfGames x) {
        fill(x, CARDS);
        feed(x, " ".repeat(600 - (int) x.count(6) - 3));
        x.row(0, 0, -1);
    }

    private static void noGame(HalfGames x) {
        feed(x, "end 3");
        x.row(2, 1, 5);
        x.set(2, 4, 4);
        x.set(2, 5, 0);
    }

    private static void nothing(HalfGames x) {
        due("status() of a new object", x.status(), 0);
    }

    public static void main(String[] args) {
        begin("with status() 0", RefusalTest::cards);
        badRows();
        foundRows();
        badTexts();
        badPlaces();
        badPlans();
        badRounds();
        badAsks();
        begin("with status() 5", RefusalTest::cardsThenStore);
        badRows();
        foundRows();
        badTexts();
        badPlaces();
        badPlans();
        badRounds();
        badAsks();
        forgetting();
        fullTape();
        withoutGame();
        quietCalls();
        narrowCalls();
        faults();
        orders();
        finish();
    }

    private static void badRows() {
        refused("row(-1, 0, 3)", BAD, x -> x.row(-1, 0, 3));
        refused("row(8, 0, 3)", BAD, x -> x.row(8, 0, 3));
        refused("row(0, -1, 3)", BAD, x -> x.row(0, -1, 3));
        refused("row(0, 3, 3)", BAD, x -> x.row(0, 3, 3));
        refused("row(0, 1, 41)", BAD, x -> x.row(0, 1, 41));
        refused("row(6, 1, 41)", BAD, x -> x.row(6, 1, 41));
        refused("set(-1, 0, 3)", BAD, x -> x.set(-1, 0, 3));
        refused("set(8, 0, 3)", BAD, x -> x.set(8, 0, 3));
        refused("copy(-1, 0, 0, 0, 1)", BAD, x -> x.copy(-1, 0, 0, 0, 1));
        refused("copy(8, 0, 0, 0, 1)", BAD, x -> x.copy(8, 0, 0, 0, 1));
        refused("copy(0, 0, -1, 0, 1)", BAD, x -> x.copy(0, 0, -1, 0, 1));
        refused("copy(0, 0, 8, 0, 1)", BAD, x -> x.copy(0, 0, 8, 0, 1));
        refused("drop(-1)", BAD, x -> x.drop(-1));
        refused("drop(8)", BAD, x -> x.drop(8));
    }

    private static void foundRows() {
        refused("row(0, 1, -1)", SIZE, x -> x.row(0, 1, -1));
        refused("row(6, 1, -1)", SIZE, x -> x.row(6, 1, -1));
        refused("row(6, 1, LEAST)", SIZE, x -> x.row(6, 1, LEAST));
        refused("set(5, 0, 3)", NULL, x -> x.set(5, 0, 3));
        refused("set(0, -1, 3)", PLACE, x -> x.set(0, -1, 3));
        refused("set(0, 4, 3)", PLACE, x -> x.set(0, 4, 3));
        refused("set(2, 40, 3)", PLACE, x -> x.set(2, 40, 3));
        refused("set(3, 0, 3)", PLACE, x -> x.set(3, 0, 3));
        refused("copy(5, 0, 0, 0, 1)", NULL, x -> x.copy(5, 0, 0, 0, 1));
        refused("copy(0, 0, 5, 0, 1)", NULL, x -> x.copy(0, 0, 5, 0, 1));
        refused("copy(5, 0, 6, 0, 0)", NULL, x -> x.copy(5, 0, 6, 0, 0));
        refused("copy(0, 0, 1, 0, 1)", STORE, x -> x.copy(0, 0, 1, 0, 1));
        refused("copy(1, 0, 2, 0, 1)", STORE, x -> x.copy(1, 0, 2, 0, 1));
        refused("copy(2, 0, 0, 0, 0)", STORE, x -> x.copy(2, 0, 0, 0, 0));
        refused("copy(0, 0, 4, 0, 4)", PLACE, x -> x.copy(0, 0, 4, 0, 4));
        refused("copy(0, 1, 4, 1, 3)", PLACE, x -> x.copy(0, 1, 4, 1, 3));
        refused("copy(4, 1, 0, 0, 3)", PLACE, x -> x.copy(4, 1, 0, 0, 3));
        refused("copy(0, 0, 3, 0, 1)", PLACE, x -> x.copy(0, 0, 3, 0, 1));
        refused("copy(0, -1, 4, 0, 2)", PLACE, x -> x.copy(0, -1, 4, 0, 2));
        refused("copy(0, 0, 4, -1, 2)", PLACE, x -> x.copy(0, 0, 4, -1, 2));
        refused("copy(0, 1, 4, 1, -1)", PLACE, x -> x.copy(0, 1, 4, 1, -1));
        refused("drop(5)", NULL, x -> x.drop(5));
        refused("mix(0, 5, 0)", NULL, x -> x.mix(0, 5, 0));
        refused("mix(0, 0, -1)", PLACE, x -> x.mix(0, 0, -1));
        refused("mix(0, 0, 3)", PLACE, x -> x.mix(0, 0, 3));
        refused("mix(0, 3, 0)", PLACE, x -> x.mix(0, 3, 0));
        refused("as(0, 2)", KIND, x -> x.as(0, 2));
        refused("as(1, 3)", KIND, x -> x.as(1, 3));
        refused("as(10, 5)", KIND, x -> x.as(10, 5));
    }

    private static void badTexts() {
        refused("feed(w, 0)", BAD, x -> x.feed(-1L, 0));
        refused("feed(w, 9)", BAD, x -> x.feed(-1L, 9));
        refused("feed(w, -1)", BAD, x -> x.feed(-1L, -1));
        refused("feed(w, MOST)", BAD, x -> x.feed(-1L, MOST));
    }

    private static void badPlaces() {
        refused("place(11, 0)", BAD, x -> x.place(11, 0));
        refused("place(-1, 0)", BAD, x -> x.place(-1, 0));
        refused("place(0, 6)", BAD, x -> x.place(0, 6));
        refused("place(0, -1)", BAD, x -> x.place(0, -1));
        refused("seen(10, 0)", BAD, x -> x.seen(10, 0));
        refused("seen(-1, 0)", BAD, x -> x.seen(-1, 0));
        refused("seen(0, 3)", BAD, x -> x.seen(0, 3));
        refused("seen(0, -1)", BAD, x -> x.seen(0, -1));
        refused("forgets(2)", BAD, x -> x.forgets(2));
        refused("forgets(-1)", BAD, x -> x.forgets(-1));
    }

    private static void badPlans() {
        refused("mix(3, 0, 0)", BAD, x -> x.mix(3, 0, 0));
        refused("mix(10, 0, 0)", BAD, x -> x.mix(10, 0, 0));
        refused("mix(-1, 0, 0)", BAD, x -> x.mix(-1, 0, 0));
        refused("mix(0, 8, 0)", BAD, x -> x.mix(0, 8, 0));
        refused("mix(0, -1, 0)", BAD, x -> x.mix(0, -1, 0));
        refused("mix of 7, 9", BAD, x -> x.mix(0, 0, 1));
        refused("mix of 9, -1", BAD, x -> x.mix(0, 0, 2));
        refused("mix of 0, 11", BAD, x -> x.mix(0, 1, 0));
        refused("share(0, 2)", BAD, x -> x.share(0, 2));
        refused("share(0, -1)", BAD, x -> x.share(0, -1));
        refused("share(3, 0)", BAD, x -> x.share(3, 0));
        refused("share(10, 0)", BAD, x -> x.share(10, 0));
        refused("reach(11, 0)", BAD, x -> x.reach(11, 0));
        refused("reach(-1, 0)", BAD, x -> x.reach(-1, 0));
        refused("reach(0, 3)", BAD, x -> x.reach(0, 3));
        refused("reach(0, -1)", BAD, x -> x.reach(0, -1));
        refused("best(2, 0)", BAD, x -> x.best(2, 0));
        refused("best(-1, 0)", BAD, x -> x.best(-1, 0));
        refused("best(0, 3)", BAD, x -> x.best(0, 3));
        refused("best(0, -1)", BAD, x -> x.best(0, -1));
        refused("answer(3)", BAD, x -> x.answer(3));
        refused("answer(10)", BAD, x -> x.answer(10));
        refused("answer(-1)", BAD, x -> x.answer(-1));
        refused("belief(0, 0), a deal", BAD, x -> x.belief(0, 0));
        refused("belief(3, 0), an end", BAD, x -> x.belief(3, 0));
        refused("belief(11, 0)", BAD, x -> x.belief(11, 0));
        refused("belief(1, 2)", BAD, x -> x.belief(1, 2));
        refused("belief(1, -1)", BAD, x -> x.belief(1, -1));
        refused("seeing(3)", BAD, x -> x.seeing(3));
        refused("seeing(10)", BAD, x -> x.seeing(10));
        refused("fewer(0, 2)", BAD, x -> x.fewer(0, 2));
        refused("fewer(0, -1)", BAD, x -> x.fewer(0, -1));
        refused("fewer(3, 0)", BAD, x -> x.fewer(3, 0));
    }

    private static void badRounds() {
        refused("rounds(0)", BAD, x -> x.rounds(0));
        refused("rounds(61)", BAD, x -> x.rounds(61));
        refused("rounds(-1)", BAD, x -> x.rounds(-1));
        refused("bound(3)", BAD, x -> x.bound(3));
        refused("bound(-1)", BAD, x -> x.bound(-1));
        refused("mean(0, 2)", BAD, x -> x.mean(0, 2));
        refused("mean(3, 0)", BAD, x -> x.mean(3, 0));
        refused("mean(10, 0)", BAD, x -> x.mean(10, 0));
        refused("take(4)", BAD, x -> x.take(4));
        refused("take(-1)", BAD, x -> x.take(-1));
    }

    private static void badAsks() {
        refused("kind(11)", BAD, x -> x.kind(11));
        refused("kind(-1)", BAD, x -> x.kind(-1));
        refused("as(11, 0)", BAD, x -> x.as(11, 0));
        refused("as(-1, 0)", BAD, x -> x.as(-1, 0));
        refused("as(0, 6)", BAD, x -> x.as(0, 6));
        refused("as(0, -1)", BAD, x -> x.as(0, -1));
        refused("ask(11, 0)", BAD, x -> x.ask(11, 0));
        refused("ask(-1, 1)", BAD, x -> x.ask(-1, 1));
        refused("ask(0, 2)", BAD, x -> x.ask(0, 2));
        refused("ask(0, -1)", BAD, x -> x.ask(0, -1));
        refused("count(7)", BAD, x -> x.count(7));
        refused("count(-1)", BAD, x -> x.count(-1));
        refused("trace(16)", NONE, x -> x.trace(16));
        refused("trace(-1)", NONE, x -> x.trace(-1));
    }

    private static void forgetting() {
        begin("STATE: the player forgets", RefusalTest::forgotten);
        refused("best(0, 0)", STATE, x -> x.best(0, 0));
        refused("best(0, 1)", STATE, x -> x.best(0, 1));
        refused("best(1, 2)", STATE, x -> x.best(1, 2));
        refused("answer(0)", STATE, x -> x.answer(0));
        refused("answer(1)", STATE, x -> x.answer(1));
        refused("seeing(0)", STATE, x -> x.seeing(0));
        refused("seeing(1)", STATE, x -> x.seeing(1));
        refused("fewer(0, 0)", STATE, x -> x.fewer(0, 0));
        refused("fewer(1, 1)", STATE, x -> x.fewer(1, 1));
        refused("rounds(1)", STATE, x -> x.rounds(1));
        refused("rounds(60)", STATE, x -> x.rounds(60));
        refused("bound(0)", STATE, x -> x.bound(0));
        refused("bound(1)", STATE, x -> x.bound(1));
        refused("take(0)", BAD, x -> x.take(0));
        about("BAD ahead of STATE");
        refused("best(2, 0)", BAD, x -> x.best(2, 0));
        refused("best(0, 3)", BAD, x -> x.best(0, 3));
        refused("answer(2)", BAD, x -> x.answer(2));
        refused("seeing(2)", BAD, x -> x.seeing(2));
        refused("fewer(1, 2)", BAD, x -> x.fewer(1, 2));
        refused("fewer(2, 0)", BAD, x -> x.fewer(2, 0));
        refused("rounds(0)", BAD, x -> x.rounds(0));
        refused("rounds(61)", BAD, x -> x.rounds(61));
        refused("bound(3)", BAD, x -> x.bound(3));
    }

    private static void fullTape() {
        begin("FULL: none comes", RefusalTest::full);
        refused("feed(w, 4)", FULL, x -> x.feed(0x656e6420L, 4));
        refused("feed(w, 8)", FULL, x -> x.feed(-1L, 8));
        about("BAD ahead of FULL");
        refused("feed(w, 9)", BAD, x -> x.feed(-1L, 9));
        refused("feed(w, 0)", BAD, x -> x.feed(-1L, 0));
        HalfGames x = new HalfGames();
        full(x);
        due("what there is room for is taken", x.feed(0x202020L, 3), 600);
        due("and then no byte", x.feed(0x20L, 1), FULL);
        due("the text is whole", x.game(), 3);
        due("and is the one that was fed", x.place(2, 1), 56);
    }

    private static void withoutGame() {
        for (Picture.Past before : new Picture.Past[] {RefusalTest::noGame, RefusalTest::nothing}) {
            begin("no GAME", before);
            refused("value()", STATE, x -> x.value());
            refused("best(0, 0)", STATE, x -> x.best(0, 0));
            refused("best(1, 2)", STATE, x -> x.best(1, 2));
            refused("best(2, 0)", BAD, x -> x.best(2, 0));
            refused("best(0, 3)", BAD, x -> x.best(0, 3));
            refused("rounds(1)", STATE, x -> x.rounds(1));
            refused("rounds(0)", BAD, x -> x.rounds(0));
            refused("bound(0)", STATE, x -> x.bound(0));
            refused("bound(1)", STATE, x -> x.bound(1));
            refused("bound(2)", 0, x -> x.bound(2));
            refused("bound(3)", BAD, x -> x.bound(3));
            refused("take(0)", BAD, x -> x.take(0));
            refused("mean(0, 0)", BAD, x -> x.mean(0, 0));
            refused("mix(0, 2, 0)", BAD, x -> x.mix(0, 2, 0));
            refused("mix(0, 0, 0)", BAD, x -> x.mix(0, 0, 0));
            refused("share(0, 0)", BAD, x -> x.share(0, 0));
            refused("answer(0)", BAD, x -> x.answer(0));
            refused("seeing(0)", BAD, x -> x.seeing(0));
            refused("fewer(0, 0)", BAD, x -> x.fewer(0, 0));
            refused("place(0, 0)", BAD, x -> x.place(0, 0));
            refused("reach(0, 0)", BAD, x -> x.reach(0, 0));
            refused("belief(0, 0)", BAD, x -> x.belief(0, 0));
            refused("kind(0)", BAD, x -> x.kind(0));
            refused("as(0, 0)", BAD, x -> x.as(0, 0));
            refused("ask(0, 0)", BAD, x -> x.ask(0, 0));
            refused("seen(0, 0)", NONE, x -> x.seen(0, 0));
            refused("seen(10, 0)", BAD, x -> x.seen(10, 0));
            refused("forgets(0)", 0, x -> x.forgets(0));
            refused("forgets(2)", BAD, x -> x.forgets(2));
            refused("row(0, 0, -1)", SIZE, x -> x.row(0, 0, -1));
            refused("drop(0)", NULL, x -> x.drop(0));
        }
    }

    /** What only asks changes nothing either, not even status(); an ASK nothing but THE TRACE. */
    private static void quietCalls() {
        begin("what only asks", RefusalTest::cardsThenStore);
        dueSame("fault()", x -> x.fault());
        dueSame("place(3, 1)", x -> x.place(3, 1));
        dueSame("seen(2, 2)", x -> x.seen(2, 2));
        dueSame("forgets(1)", x -> x.forgets(1));
        dueSame("share(1, 1)", x -> x.share(1, 1));
        dueSame("value()", x -> x.value());
        dueSame("reach(4, 1)", x -> x.reach(4, 1));
        dueSame("best(0, 1)", x -> x.best(0, 1));
        dueSame("best(1, 2)", x -> x.best(1, 2));
        dueSame("answer(2)", x -> x.answer(2));
        dueSame("belief(2, 1)", x -> x.belief(2, 1));
        dueSame("seeing(2)", x -> x.seeing(2));
        dueSame("fewer(2, 0)", x -> x.fewer(2, 0));
        dueSame("fewer(2, 1)", x -> x.fewer(2, 1));
        dueSame("fewer(0, 0)", x -> x.fewer(0, 0));
        dueSame("fewer(0, 1)", x -> x.fewer(0, 1));
        dueSame("bound(0)", x -> x.bound(0));
        dueSame("bound(1)", x -> x.bound(1));
        dueSame("mean(0, 0)", x -> x.mean(0, 0));
        dueSame("kind(0)", x -> x.kind(0));
        dueSame("trace(1)", x -> x.trace(1));
        dueSame("count(6)", x -> x.count(6));
        dueSame("status()", x -> x.status());
        dueSame("ask(2, 0)", x -> x.ask(2, 0), "trace");
        dueSame("as(0, 0)", x -> x.as(0, 0), "status");
        dueSame("copy of none", x -> x.copy(0, 4, 4, 3, 0), "status");
        about("ROUNDS that cannot be more");
        begin("with 60 ROUNDS", x -> {
            cardsThenStore(x);
            x.rounds(60);
        });
        dueSame("rounds(1)", x -> x.rounds(1));
        dueSame("rounds(60)", x -> x.rounds(60));
    }

    /** What is done changes that alone which the promise tells. */
    private static void narrowCalls() {
        String[] plan = {"value", "best", "reach", "belief", "answer", "seeing", "share", "fewer"};
        begin("a PLAN and nothing else", RefusalTest::cards);
        dueSame("mix(2, 4, 1)", x -> x.mix(2, 4, 1), plan);
        dueSame("take(3)", x -> x.take(3), plan);
        about("ROUNDS and nothing else");
        dueSame("rounds(9)", x -> x.rounds(9), "count", "bound", "mean", "take", "act", "rounds");
        about("a ROW and nothing else");
        dueSame("set(0, 1, 8)", x -> x.set(0, 1, 8), "ITEM");
        dueSame("copy(0, 0, 4, 1, 2)", x -> x.copy(0, 0, 4, 1, 2), "ITEM");
        dueSame("copy(0, 0, 0, 1, 3)", x -> x.copy(0, 0, 0, 1, 3), "ITEM");
        dueSame("row(3, 2, 0)", x -> x.row(3, 2, 0), "lane");
        dueSame("row(5, 2, 0)", x -> x.row(5, 2, 0), "lane", "length", "count");
        dueSame("drop(3)", x -> x.drop(3), "lane", "length", "count");
        about("the tape and nothing else");
        dueSame("feed(w, 3)", x -> x.feed(-1L, 3), "tape");
        about("a GAME that is read: ROWS, status(), fault() and THE TRACE stay");
        begin("a GAME that is read: ROWS, status(), fault() and THE TRACE stay", RefusalTest::cardsThenStore);
        dueSame("game()", x -> x.game(), "count", "tape", "value", "best", "bound", "place", "reach", "belief", "kind",
                "answer", "seeing", "seen", "share", "fewer", "mean", "take", "act", "rounds");
    }

    private static void faults() {
        String[] texts = {"", "end", "deal 2 6 one 0 2 end 1 end 2 7", "two 0 3 two 2 3 end 1 end 2 end 3 end 4 end 5 !",
            "one 1 2 ".repeat(9), "end 1;;", "one 3 2 end 1 end 2"};
        int[] numbers = {1, 1, 2, 1, 3, 1, 1};
        for (int k = 0; k < texts.length; k++) {
            String text = texts[k];
            begin("a FAULT: the GAME stays", x -> {
                cardsThenStore(x);
                x.game();
                cardsThenStore(x);
                x.game();
                read(x, CARDS);
                x.mix(0, 0, 0);
                x.rounds(3);
                x.ask(1, 0);
            });
            dueSame("game() of <" + text + ">", x -> read(x, text), "fault", "tape");
            HalfGames x = new HalfGames();
            past.on(x);
            read(x, text);
            due("fault() of <" + text + ">", x.fault(), numbers[k]);
            due("count(6) behind <" + text + ">", x.count(6), 0);
            due("status() behind <" + text + ">", x.status(), 0);
        }
    }

    private static void orders() {
        begin("the first of these that fits", RefusalTest::cardsThenStore);
        refused("row(): BAD ahead of SIZE, the ROW", BAD, x -> x.row(8, 0, -1));
        refused("row(): BAD ahead of SIZE, the LANE", BAD, x -> x.row(0, 3, -1));
        refused("row(): BAD ahead of SIZE, a LANE below 0", BAD, x -> x.row(0, -1, -1));
        refused("set(): BAD ahead of PLACE", BAD, x -> x.set(8, -1, 0));
        refused("set(): NULL ahead of PLACE", NULL, x -> x.set(5, -1, 0));
        refused("set(): NULL ahead of PLACE, beyond", NULL, x -> x.set(5, 40, 0));
        refused("copy(): BAD of b ahead of NULL of a", BAD, x -> x.copy(5, 0, 8, 0, 0));
        refused("copy(): BAD of a ahead of NULL of b", BAD, x -> x.copy(-1, 0, 5, 0, 0));
        refused("copy(): BAD ahead of PLACE", BAD, x -> x.copy(0, -1, 8, 0, -1));
        refused("copy(): NULL of a ahead of PLACE", NULL, x -> x.copy(5, -1, 0, 0, 1));
        refused("copy(): NULL of b ahead of PLACE", NULL, x -> x.copy(0, -1, 5, -1, -1));
        refused("copy(): NULL of b ahead of PLACE beyond", NULL, x -> x.copy(0, 41, 5, 0, 1));
        refused("copy(): STORE ahead of PLACE, i", STORE, x -> x.copy(0, -1, 1, 0, 1));
        refused("copy(): STORE ahead of PLACE, j", STORE, x -> x.copy(0, 0, 1, 41, 1));
        refused("copy(): STORE ahead of PLACE, n", STORE, x -> x.copy(0, 0, 1, 0, -1));
        refused("drop(): BAD, no NULL", BAD, x -> x.drop(8));
        refused("mix(): BAD of the SET ahead of NULL", BAD, x -> x.mix(3, 5, 0));
        refused("mix(): BAD of the SET ahead of PLACE", BAD, x -> x.mix(3, 0, -1));
        refused("mix(): BAD of the ROW ahead of PLACE", BAD, x -> x.mix(0, 8, -1));
        refused("mix(): NULL ahead of PLACE", NULL, x -> x.mix(0, 5, -1));
        refused("mix(): PLACE ahead of wrong ITEMS", PLACE, x -> x.mix(0, 0, 3));
        refused("as(): BAD of the PLACE ahead of KIND", BAD, x -> x.as(11, 5));
        refused("as(): BAD of the KIND ahead of KIND", BAD, x -> x.as(0, 6));
    }
}
