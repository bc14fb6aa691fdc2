/**
 * Every number that the document bounds: the last that is taken, the first that is refused, the farthest there are.
 * What texts may say is in TextTest, in which order refusals are told and what they leave in RefusalTest.
 */
public final class LimitTest extends Checks {
    private static final int[] FAR = {LEAST, LEAST + 1, -1000000, MOST - 1, MOST};

    private interface Call {
        long on(int number);
    }

    private interface Made {
        HalfGames anew();
    }

    /** All numbers from least to most are taken; those around and far off answer the refusal. */
    private static void taken(String call, int least, int most, long refusal, Call asked) {
        for (int number = least; number <= most; number++) {
            if (asked.on(number) <= HalfGames.NOT) {
                fail(call + " with " + number + " answered " + asked.on(number));
            }
        }
        due(call + " with " + (least - 1), asked.on(least - 1), refusal);
        due(call + " with " + (most + 1), asked.on(most + 1), refusal);
        for (int number : FAR) {
            due(call + " with " + number, asked.on(number), refusal);
        }
    }

    /** All ROWS are there, of ints, with 12 and 0 in each. */
    private static HalfGames withRows(String text) {
        HalfGames x = with(text);
        for (int row = 0; row < 8; row++) {
            lay(x, row, 12, 0);
        }
        return x;
    }

    /** 60 PLACES, 9 below one another, the last the 9th; all ten SETS: those of one have 3 acts, those of two 2. */
    private static String largest() {
        String four = "deal 4 3 end 1 3 end 2 3 end 3 3 end 99 ";
        String[] beside = {"one 4 3 end 1 end 2 end 3 ", "two 9 2 end 4 end 5 ", four, four, four, four, four, four,
            four, four, "deal 2 6 end 0 6 end 7 ", "end 8 "};
        StringBuilder text = new StringBuilder();
        for (int k = 0; k < 4; k++) {
            text.append("one ").append(k).append(" 3 ").append(beside[3 * k]).append(beside[3 * k + 1]);
            text.append("two ").append(k + 5).append(" 2 ").append(beside[3 * k + 2]);
        }
        return text + "end 50;";
    }

    public static void main(String[] args) {
        termsOfRows();
        promise2();
        promise3Lanes();
        promise3To5Items();
        promise6();
        promise9To11();
        promise12();
        promise13To20();
        termsOfPlans();
        termsOfBestAnswers();
        termsOfSeeing();
        promise21To24();
        termsOfRounds();
        termsOfKinds();
        promise25To28();
        promise29();
        promise30();
        theLastCall();
        finish();
    }

    private static void termsOfRows() {
        about("ROWS 0 .. 7");
        taken("row(r, 0, 1)", 0, 7, BAD, r -> new HalfGames().row(r, 0, 1));
        taken("set(r, 0, 1)", 0, 7, BAD, r -> withRows(CARDS).set(r, 0, 1));
        taken("copy(r, 0, 3, 0, 1)", 0, 7, BAD, r -> withRows(CARDS).copy(r, 0, 3, 0, 1));
        taken("copy(3, 0, r, 0, 1)", 0, 7, BAD, r -> withRows(CARDS).copy(3, 0, r, 0, 1));
        taken("drop(r)", 0, 7, BAD, r -> withRows(CARDS).drop(r));
        taken("mix(0, r, 0)", 0, 7, BAD, r -> withRows(CARDS).mix(0, r, 0));
        about("ROWS are missing at first");
        for (int row = 0; row < 8; row++) {
            HalfGames x = with(CARDS);
            x.row((row + 1) % 8, 0, 40);
            due("set of a missing ROW", x.set(row, 0, 0), NULL);
            due("copy from a missing ROW", x.copy(row, 0, (row + 1) % 8, 0, 0), NULL);
            due("copy to a missing ROW", x.copy((row + 1) % 8, 0, row, 0, 0), NULL);
            due("drop of a missing ROW", x.drop(row), NULL);
            due("mix by a missing ROW", x.mix(0, row, 0), NULL);
            due("count(0)", x.count(0), 1);
        }
        about("no ROW stands in another's place");
        HalfGames x = with(CARDS);
        for (int row = 0; row < 8; row++) {
            x.row(row, row % 3, 40);
            x.set(row, 0, 12 - row);
            x.set(row, 39, row);
        }
        for (int row = 0; row < 8; row++) {
            x.row(row, row % 3, 40);
            due("the first and last ITEM of ROW " + row + " are 0 again", first(x, row) + last(x, row), 0);
            if (row < 7) {
                due("the first ITEM of the next is as it was", first(x, row + 1), 12 - (row + 1));
                due("the last ITEM of the next is as it was", last(x, row + 1), row + 1);
            }
        }
    }

    private static long first(HalfGames x, int row) {
        return item(x, row, 0, 1);
    }

    private static long last(HalfGames x, int row) {
        return item(x, row, 39, 38);
    }

    /** What an ITEM is, by what makes it 12 with the one beside it; that one is 0 behind this. */
    private static long item(HalfGames x, int row, int i, int beside) {
        long found = NONE;
        for (int v = 0; v <= 12; v++) {
            x.set(row, beside, 12 - v);
            if (x.mix(0, row, Math.min(i, beside)) == 1) {
                found = v;
            }
        }
        x.set(row, beside, 0);
        return found;
    }

    private static void promise2() {
        about("row: a LANE 0, 1, 2");
        taken("row(0, lane, 1)", 0, 2, BAD, lane -> new HalfGames().row(0, lane, 1));
        about("row: 0 to 40 ITEMS, above 40 BAD, fewer than none SIZE");
        for (int lane = 0; lane < 3; lane++) {
            for (int n = 0; n <= 40; n++) {
                HalfGames x = new HalfGames();
                due("row(4, lane, " + n + ")", x.row(4, lane, n), n);
                due("set of the first beyond it", x.set(4, n, 1), PLACE);
                due("set of the last", x.set(4, n - 1, 1), n == 0 ? PLACE : 1);
                due("drop(4)", x.drop(4), n);
            }
            HalfGames x = new HalfGames();
            for (int n : new int[] {41, 42, 255, 256, 65536, MOST - 1, MOST}) {
                due("row(4, lane, " + n + ")", x.row(4, lane, n), BAD);
            }
            for (int n : new int[] {-1, -2, -40, -41, LEAST + 1, LEAST}) {
                due("row(4, lane, " + n + ")", x.row(4, lane, n), SIZE);
            }
            due("count(0)", x.count(0), 0);
        }
        about("row: ITEMS are 0 at first, in place of what is there");
        for (int i = 0; i < 40; i++) {
            HalfGames x = with("one 0 2 end 1 end 2;");
            x.row(0, 0, 40);
            for (int k = 0; k < 40; k++) {
                x.set(0, k, 12);
            }
            due("row(0, 1, 40)", x.row(0, 1, 40), 40);
            due("ITEM " + i, item(x, 0, i, i == 0 ? 1 : i - 1), 0);
            due("count(0)", x.count(0), 1);
        }
        about("row: a shorter ROW, a longer one again, a dropped one: what was there is gone");
        HalfGames x = with("one 0 2 end 1 end 2;");
        lay(x, 0, 12, 12, 12, 12);
        x.row(0, 2, 1);
        due("set(0, 1, 0)", x.set(0, 1, 0), PLACE);
        x.row(0, 2, 4);
        due("ITEM 3", item(x, 0, 3, 2), 0);
        x.set(0, 1, 5);
        x.drop(0);
        x.row(0, 2, 2);
        due("ITEM 1", item(x, 0, 1, 0), 0);
    }

    private static void promise3Lanes() {
        about("set: the lowest bits, as many as the LANE has");
        int[] given = {0, 1, 127, 128, 129, 255, 256, 257, 268, -1, -128, -129, -256, 32767, 32768, 32769, 65535, 65536,
            65537, 65548, -32768, -32769, -65536, 16777216, MOST, LEAST, MOST - 1, LEAST + 1};
        for (int v : given) {
            HalfGames x = new HalfGames();
            for (int lane = 0; lane < 3; lane++) {
                x.row(lane, lane, 1);
            }
            due("bytes: " + v, x.set(0, 0, v), (byte) v);
            due("shorts: " + v, x.set(1, 0, v), (short) v);
            due("ints: " + v, x.set(2, 0, v), v);
        }
        about("set: what it is then is what is there");
        for (int lane = 0; lane < 3; lane++) {
            HalfGames x = with("one 0 2 end 1 end 2;");
            x.row(0, lane, 2);
            x.set(0, 0, 256 + 12);
            due("256 and 12 in LANE " + lane, x.mix(0, 0, 0), lane == 0 ? 1 : BAD);
            x.set(0, 0, 65536 + 12);
            due("65536 and 12 in LANE " + lane, x.mix(0, 0, 0), lane < 2 ? 1 : BAD);
            x.set(0, 0, 12);
            due("12 in LANE " + lane, x.mix(0, 0, 0), 1);
        }
    }

    private static void promise3To5Items() {
        about("set: PLACE below 0 and from n on");
        taken("set(3, i, 0) of 2 ITEMS", 0, 1, PLACE, i -> withRows(CARDS).set(3, i, 0));
        about("copy: n ITEMS from i on, from j on");
        taken("copy(0, i, 1, 0, 1)", 0, 1, PLACE, i -> withRows(CARDS).copy(0, i, 1, 0, 1));
        taken("copy(0, 0, 1, j, 1)", 0, 1, PLACE, j -> withRows(CARDS).copy(0, 0, 1, j, 1));
        taken("copy(0, 0, 1, 0, n)", 0, 2, PLACE, n -> withRows(CARDS).copy(0, 0, 1, 0, n));
        taken("copy(0, i, 1, 0, 0)", 0, 2, PLACE, i -> withRows(CARDS).copy(0, i, 1, 0, 0));
        taken("copy(0, 0, 1, j, 0)", 0, 2, PLACE, j -> withRows(CARDS).copy(0, 0, 1, j, 0));
        taken("copy(0, 1, 1, 1, n)", 0, 1, PLACE, n -> withRows(CARDS).copy(0, 1, 1, 1, n));
        taken("copy(0, 2, 1, 2, n)", 0, 0, PLACE, n -> withRows(CARDS).copy(0, 2, 1, 2, n));
        taken("copy(0, i, 0, i, 1) onto itself", 0, 1, PLACE, i -> withRows(CARDS).copy(0, i, 0, i, 1));
        about("copy: numbers whose sum would wrap around");
        HalfGames x = withRows(CARDS);
        due("i and n", x.copy(0, MOST, 1, 0, MOST), PLACE);
        due("i and n to below 0", x.copy(0, 1, 1, 0, MOST), PLACE);
        due("j and n to below 0", x.copy(0, 0, 1, 1, MOST), PLACE);
        due("i below 0 and n", x.copy(0, -1, 1, 0, 2), PLACE);
        due("j below 0 and n", x.copy(0, 0, 1, -1, 2), PLACE);
        due("i, n far below 0", x.copy(0, LEAST, 1, 0, LEAST), PLACE);
        due("n below 0 with i behind it", x.copy(0, 2, 1, 2, -1), PLACE);
        due("n below 0 with i beyond the end", x.copy(0, 3, 1, 3, -1), PLACE);
        about("copy: a longer ROW and a shorter one");
        x.row(0, 2, 40);
        x.row(1, 2, 0);
        due("all 40 onto itself", x.copy(0, 0, 0, 0, 40), 40);
        due("41 onto itself", x.copy(0, 0, 0, 0, 41), PLACE);
        due("none to a ROW of none", x.copy(0, 40, 1, 0, 0), 0);
        due("one to a ROW of none", x.copy(0, 0, 1, 0, 1), PLACE);
        due("one from a ROW of none", x.copy(1, 0, 0, 0, 1), PLACE);
        copyAsTheyWereAhead();
        about("drop: how many ITEMS it had, none too; missing from now on");
        due("drop of 40", x.drop(0), 40);
        due("drop of none", x.drop(1), 0);
        due("drop again", x.drop(0), NULL);
        due("drop of none again", x.drop(1), NULL);
        due("count(0)", x.count(0), 6);
    }

    private static void copyAsTheyWereAhead() {
        about("copy: as they were ahead");
        for (int from = 0; from < 5; from++) {
            for (int to = 0; to < 5; to++) {
                HalfGames x = with("one 0 2 end 1 end 2;");
                lay(x, 0, 1, 2, 3, 4, 5, 6, 7, 8);
                int n = 8 - Math.max(from, to);
                due("copy(0, " + from + ", 0, " + to + ", n)", x.copy(0, from, 0, to, n), n);
                for (int i = 0; i < 8; i++) {
                    HalfGames y = with("one 0 2 end 1 end 2;");
                    lay(y, 0, 1, 2, 3, 4, 5, 6, 7, 8);
                    y.copy(0, from, 0, to, n);
                    int want = i >= to && i < to + n ? 1 + from + i - to : 1 + i;
                    due("ITEM " + i + " behind it", item(y, 0, i, i == 0 ? 1 : i - 1), want);
                }
            }
        }
    }

    private static void promise6() {
        about("feed: 1 to 8 bytes");
        taken("feed(0, n)", 1, 8, BAD, n -> new HalfGames().feed(0, n));
        about("feed: the lowest n bytes, the highest of them first");
        for (int n = 1; n <= 8; n++) {
            // A fault's place tells where the only sign is that is no blank.
            for (int k = 0; k < 8; k++) {
                HalfGames x = new HalfGames();
                long w = 0x2020202020202020L ^ 1L << (8 * k);
                due("feed of " + n, x.feed(w, n), n);
                due("the sign is byte " + k, x.game(), HalfGames.NOT - 100 - (k < n ? n - 1 - k : n));
            }
        }
        HalfGames x = new HalfGames();
        due("feed of all bits", x.feed(-1L, 8), 8);
        due("no byte of it is a sign", x.game(), HalfGames.NOT - 100);
        about("feed: at most 600 bytes, FULL: none comes");
        for (int n = 1; n <= 8; n++) {
            HalfGames y = new HalfGames();
            fill(y, 600 - n);
            due("one more than there is room for", n < 8 ? y.feed(0, n + 1) : FULL, FULL);
            due("count(6)", y.count(6), 600 - n);
            due("as many as there is room for", y.feed(0x2020202020202020L, n), 600);
            due("one more", y.feed(0, 1), FULL);
            due("n more", y.feed(0, n), FULL);
            due("count(6)", y.count(6), 600);
            due("the tape is read", y.game(), HalfGames.NOT - 700);
            due("and is empty then", y.count(6), 0);
            due("and takes more", y.feed(0, n), n);
        }
    }

    private static void fill(HalfGames x, int bytes) {
        feed(x, " ".repeat(bytes));
        due("count(6)", x.count(6), bytes);
    }

    /** Each call has an object of its own, so that none is used for more than 512 calls. */
    private static void takesPlaces(Made made, int last) {
        HalfGames[] x = {made.anew(), made.anew(), made.anew(), made.anew(), made.anew(), made.anew()};
        taken("place(p, 0)", 0, last, BAD, p -> x[0].place(p, 0));
        taken("reach(p, 0)", 0, last, BAD, p -> x[1].reach(p, 0));
        taken("kind(p)", 0, last, BAD, p -> x[2].kind(p));
        taken("as(p, 0)", 0, last, BAD, p -> x[3].as(p, 0));
        taken("ask(p, 0)", 0, last, BAD, p -> x[4].ask(p, 0));
        taken("ask(p, 1)", 0, last, BAD, p -> x[5].ask(p, 1));
    }

    private static void promise9To11() {
        about("PLACES of the largest GAME");
        HalfGames x = with(largest());
        due("count(1)", x.count(1), 60);
        due("count(4)", x.count(4), 10);
        takesPlaces(() -> with(largest()), 59);
        about("PLACES of the least GAME");
        HalfGames y = with("end 0;");
        takesPlaces(() -> with("end 0;"), 0);
        about("a GAME that is smaller than the one before has no more PLACES and SETS than its own");
        Made smaller = () -> {
            HalfGames made = with(largest());
            read(made, "two 3 2 end 1 end 2;");
            return made;
        };
        takesPlaces(smaller, 2);
        HalfGames z = smaller.anew();
        taken("share(s, 0)", 3, 3, BAD, s -> z.share(s, 0));
        taken("share(3, a)", 0, 1, BAD, a -> z.share(3, a));
        about("place: what 0 to 5; of others NONE, 0");
        taken("place(0, what)", 0, 5, BAD, what -> x.place(0, what));
        taken("place(59, what)", 0, 5, BAD, what -> x.place(59, what));
        HalfGames four = with(FOUR);
        due("PAY of a deal", four.place(0, 1), NONE);
        due("PAY of one", four.place(2, 1), NONE);
        due("PAY of two", four.place(8, 1), NONE);
        due("SET of a deal", four.place(0, 2), NONE);
        due("SET of an end", four.place(1, 2), NONE);
        due("how many ways of an end", four.place(1, 3), 0);
        due("above the top one", four.place(0, 4), NONE);
        due("WAYS of the top one", four.place(0, 5), 0);
        due("WAYS of the 9th", x.place(59, 5), 8);
        about("seen: SETS 0 to 9, what 0 to 2; without PLACES NONE, 0, 0");
        taken("seen(s, 0)", 0, 9, BAD, s -> new HalfGames().seen(s, 0));
        taken("seen(s, 2) of a GAME", 0, 9, BAD, s -> x.seen(s, 2));
        taken("seen(9, what)", 0, 2, BAD, what -> x.seen(9, what));
        taken("seen(9, what), no GAME", 0, 2, BAD, what -> new HalfGames().seen(9, what));
        for (int set = 0; set < 10; set++) {
            due("seen(s, 0) without PLACES", y.seen(set, 0), NONE);
            due("seen(s, 1) without PLACES", y.seen(set, 1), 0);
            due("seen(s, 2) without PLACES", y.seen(set, 2), 0);
            due("seen(s, 0) of the largest", x.seen(set, 0), set < 5 ? 0 : 1);
            due("seen(s, 1) of the largest", x.seen(set, 1), set < 5 ? 3 : 2);
            due("seen(s, 2) of the largest", x.seen(set, 2), 1);
        }
        about("forgets: players 0, 1");
        taken("forgets(p)", 0, 1, BAD, p -> new HalfGames().forgets(p));
        taken("forgets(p) of a GAME", 0, 1, BAD, p -> x.forgets(p));
    }

    private static void promise12() {
        about("mix: a SET of the GAME");
        taken("mix(s, 0, 0) of SET 4", 4, 4, BAD, s -> withRows("one 4 2 end 1 end 2;").mix(s, 0, 0));
        about("mix: as many ITEMS from i on as it has acts");
        taken("mix(4, 0, i) of 2 acts, 5 ITEMS", 0, 3, PLACE, i -> {
            HalfGames x = with("one 4 2 end 1 end 2;");
            lay(x, 0, 12, 0, 12, 0, 12);
            return x.mix(4, 0, i);
        });
        taken("mix(4, 0, i) of 3 acts, 5 ITEMS", 0, 2, PLACE, i -> {
            HalfGames x = with("two 4 3 end 1 end 2 end 3;");
            lay(x, 0, 4, 4, 4, 4, 4);
            return x.mix(4, 0, i);
        });
        taken("mix(4, 0, i) of 3 acts, 3 ITEMS", 0, 0, PLACE, i -> {
            HalfGames x = with("two 4 3 end 1 end 2 end 3;");
            lay(x, 0, 4, 4, 4);
            return x.mix(4, 0, i);
        });
        about("mix: a ROW of fewer ITEMS than acts");
        HalfGames x = with("two 4 3 end 1 end 2 end 3;");
        lay(x, 0, 6, 6);
        due("2 ITEMS for 3 acts", x.mix(4, 0, 0), PLACE);
        x.row(0, 2, 0);
        due("no ITEMS", x.mix(4, 0, 0), PLACE);
        x.row(0, 2, 40);
        x.set(0, 37, 12);
        due("the last 3 of 40", x.mix(4, 0, 37), 1);
        due("beyond the last 3", x.mix(4, 0, 38), PLACE);
        about("mix: each ITEM 0 to 12, 12 together");
        for (int a = -2; a <= 14; a++) {
            for (int b = -2; b <= 14; b++) {
                HalfGames y = with("two 4 2 end 1 end 2;");
                lay(y, 0, a, b);
                boolean fits = a >= 0 && b >= 0 && a + b == 12;
                due("mix of " + a + ", " + b, y.mix(4, 0, 0), fits ? 1 : BAD);
                due("share(4, 0) behind it", y.share(4, 0), fits ? a : 12);
                due("share(4, 1) behind it", y.share(4, 1), fits ? b : 0);
                for (int c = -1; c <= 13; c++) {
                    mixThree(a, b, c);
                }
            }
        }
        about("mix: ITEMS whose sum wraps around to 12");
        for (int[] items : new int[][] {{MOST, MOST, 14}, {LEAST, LEAST, 12}, {14, MOST, MOST}, {LEAST, MOST, 13}}) {
            HalfGames y = with("two 4 3 end 1 end 2 end 3;");
            lay(y, 0, items);
            due("mix of " + items[0] + ", " + items[1] + ", " + items[2], y.mix(4, 0, 0), BAD);
            due("share(4, 0)", y.share(4, 0), 12);
        }
    }

    private static void mixThree(int a, int b, int c) {
        HalfGames x = with("one 4 3 end 1 end 2 end 3;");
        lay(x, 0, a, b, c);
        boolean fits = a >= 0 && b >= 0 && c >= 0 && a + b + c == 12;
        due("mix of " + a + ", " + b + ", " + c, x.mix(4, 0, 0), fits ? 1 : BAD);
        due("share(4, 2) behind it", x.share(4, 2), fits ? c : 0);
    }

    private static void promise13To20() {
        HalfGames x = with(largest());
        HalfGames y = with("one 4 2 end 1 two 7 3 end 2 end 3 end 4;");
        about("SETS 0 to 9, and those alone that have PLACES");
        taken("share(s, 0)", 0, 9, BAD, s -> x.share(s, 0));
        taken("answer(s)", 0, 9, BAD, s -> x.answer(s));
        taken("seeing(s)", 0, 9, BAD, s -> x.seeing(s));
        taken("fewer(s, 0)", 0, 9, BAD, s -> x.fewer(s, 0));
        taken("mean(s, 0)", 0, 9, BAD, s -> x.mean(s, 0));
        for (int set : new int[] {0, 3, 5, 6, 8, 9}) {
            due("share(" + set + ", 0)", y.share(set, 0), BAD);
            due("answer(" + set + ")", y.answer(set), BAD);
            due("seeing(" + set + ")", y.seeing(set), BAD);
            due("fewer(" + set + ", 0)", y.fewer(set, 0), BAD);
            due("mean(" + set + ", 0)", y.mean(set, 0), BAD);
            due("mix(" + set + ", 0, 0)", y.mix(set, 0, 0), BAD);
        }
        about("acts: as many as the SET has");
        taken("share(4, a) of 2", 0, 1, BAD, a -> y.share(4, a));
        taken("share(7, a) of 3", 0, 2, BAD, a -> y.share(7, a));
        taken("fewer(4, a) of 2", 0, 1, BAD, a -> y.fewer(4, a));
        taken("fewer(7, a) of 3", 0, 2, BAD, a -> y.fewer(7, a));
        taken("mean(4, a) of 2", 0, 1, BAD, a -> y.mean(4, a));
        taken("mean(7, a) of 3", 0, 2, BAD, a -> y.mean(7, a));
        about("what is asked");
        taken("reach(0, what)", 0, 2, BAD, what -> y.reach(0, what));
        taken("best(p, 0)", 0, 1, BAD, p -> y.best(p, 0));
        taken("best(p, 1)", 0, 1, BAD, p -> y.best(p, 1));
        taken("best(p, 2)", 0, 1, BAD, p -> y.best(p, 2));
        taken("best(0, what)", 0, 2, BAD, what -> y.best(0, what));
        taken("best(1, what)", 0, 2, BAD, what -> y.best(1, what));
        taken("belief(0, what)", 0, 1, BAD, what -> y.belief(0, what));
        about("belief: PLACES, and those alone that are of a SET");
        taken("belief(p, 0)", 2, 3, BAD, p -> with("deal 2 6 end 1 6 one 4 2 one 5 2 end 1 end 2 end 3;").belief(p, 0));
        taken("belief(p, 1)", 2, 3, BAD, p -> with("deal 2 6 end 1 6 one 4 2 one 5 2 end 1 end 2 end 3;").belief(p, 1));
        about("belief: PLACE 0, and the last SET of the largest GAME");
        due("belief(0, 1)", y.belief(0, 1), WHOLE);
        due("belief(0, 1) of the largest", x.belief(0, 1), WHOLE);
        due("belief(57, 1) of the largest", x.belief(57, 1), 0);
        about("value: all 60 PLACES of the largest GAME");
        due("value()", x.value(), WHOLE);
        for (int set = 0; set < 4; set++) {
            mix(x, set, 0, 0, 12);
            mix(x, set + 5, 0, 12);
        }
        due("belief(57, 1)", x.belief(57, 1), WHOLE);
        due("value() by the last PLACE", x.value(), 50 * WHOLE);
        about("no GAME");
        HalfGames none = new HalfGames();
        due("value()", none.value(), STATE);
        due("best(1, 2)", none.best(1, 2), STATE);
        due("rounds(60)", none.rounds(60), STATE);
        due("bound(1)", none.bound(1), STATE);
        due("reach(0, 0)", none.reach(0, 0), BAD);
        due("belief(0, 0)", none.belief(0, 0), BAD);
        due("take(0)", none.take(0), BAD);
    }

    private static void termsOfPlans() {
        about("UNITS: 12 to the power 8 to a whole");
        due("value of the most PAY", with("end 99;").value(), 99 * WHOLE);
        due("value of the least PAY", with("end 0;").value(), 0);
        due("reach(0, 0)", with("end 0;").reach(0, 0), WHOLE);
        about("REACH by 8 ways, the least shares and the most");
        StringBuilder text = new StringBuilder();
        for (int k = 0; k < 8; k++) {
            text.append("one ").append(k).append(" 2 end 0 ");
        }
        HalfGames x = with(text + "end 99;");
        due("at first", x.reach(16, 0), 0);
        due("OWN REACH by one, at first", x.reach(16, 1), WHOLE);
        due("OWN REACH by two, at first", x.reach(16, 2), 0);
        for (int k = 0; k < 8; k++) {
            mix(x, k, 11, 1);
        }
        due("1 in 12 to the power 8", x.reach(16, 0), 1);
        due("VALUE of it", x.value(), 99);
        due("OWN REACH by one", x.reach(16, 1), WHOLE);
        due("OWN REACH by two", x.reach(16, 2), 1);
        due("the end beside it", x.reach(15, 0), 11);
        for (int k = 0; k < 8; k++) {
            mix(x, k, 0, 12);
        }
        due("all 12", x.reach(16, 0), WHOLE);
        due("the best answer of the most", x.best(0, 0), 99 * WHOLE);
        about("a PLAN gives 12 to act 0 at first, and when a GAME is read");
        HalfGames y = with(largest());
        for (int again = 0; again < 2; again++) {
            for (int set = 0; set < 10; set++) {
                due("share of act 0", y.share(set, 0), 12);
                due("share of act 1", y.share(set, 1), 0);
                due("share of act 2", y.share(set, 2), set < 5 ? 0 : BAD);
                mix(y, set, set < 5 ? new int[] {3, 4, 5} : new int[] {5, 7});
                due("share of act 1", y.share(set, 1), set < 5 ? 4 : 7);
            }
            due("the same GAME again", read(y, largest()), 60);
        }
        about("a PLAN that is mixed for 3 acts, and a GAME of 2 behind it");
        HalfGames z = with("one 0 3 end 1 end 2 end 3;");
        mix(z, 0, 0, 0, 12);
        read(z, "one 0 2 end 1 end 2;");
        due("value()", z.value(), WHOLE);
        due("share(0, 0)", z.share(0, 0), 12);
    }

    private static void termsOfBestAnswers() {
        about("of several the least act");
        String[] pays = {"5 5 5", "5 5 4", "4 5 5", "5 4 5", "4 4 5", "5 4 4"};
        int[] mostAct = {0, 0, 1, 0, 2, 0};
        int[] leastAct = {0, 2, 0, 1, 0, 1};
        for (int k = 0; k < pays.length; k++) {
            String[] pay = pays[k].split(" ");
            String ends = " 0 3 end " + pay[0] + " end " + pay[1] + " end " + pay[2] + ";";
            due("one of " + pays[k], with("one" + ends).answer(0), mostAct[k]);
            due("two of " + pays[k], with("two" + ends).answer(0), leastAct[k]);
        }
        due("two acts alike", with("one 0 2 end 7 end 7;").answer(0), 0);
        due("a SET that none comes to", with("two 1 2 end 3 one 0 2 end 1 end 2;").answer(0), 0);
        about("GAIN: never less than none");
        HalfGames x = with("one 0 2 end 20 end 20;");
        mix(x, 0, 5, 7);
        due("best(0, 1)", x.best(0, 1), 0);
        due("best(1, 2)", x.best(1, 2), 0);
        about("a player without PLACES has a BEST ANSWER: the VALUE");
        due("best(1, 0)", x.best(1, 0), 20 * WHOLE);
        due("best(1, 1)", x.best(1, 1), 0);
        due("best(0, 2)", x.best(0, 2), 0);
        about("FORGETS: unlike rows of SETS and acts");
        forgetful("by another act", "one 0 2 one 1 2 end 1 end 2 one 1 2 end 3 end 0;", 1, 0);
        forgetful("by the same act", "one 0 2 two 2 2 one 1 2 end 1 end 2 one 1 2 end 3 end 0 end 4;", 0, 0);
        forgetful("by one, and by none", "deal 2 6 one 1 2 end 0 end 1 6 one 0 2 one 1 2 end 0 end 1 end 0;", 1, 0);
        forgetful("below itself", "two 0 2 end 1 two 0 2 end 2 end 3;", 0, 1);
        forgetful("by other SETS", "deal 2 6 one 0 2 one 2 2 end 0 end 1 end 2 "
                + "6 one 1 2 one 2 2 end 0 end 1 end 2;", 1, 0);
        forgetful("by other SETS and other acts", "deal 2 6 one 0 2 end 0 one 2 2 end 1 end 2 "
                + "6 one 1 2 one 2 2 end 0 end 1 end 2;", 1, 0);
        forgetful("the other's acts", "one 0 2 two 1 2 end 1 end 2 two 1 2 end 3 end 0;", 0, 0);
        forgetful("both", "one 0 2 one 0 2 two 1 2 end 1 two 1 2 end 2 end 3 end 4 end 5;", 1, 1);
        forgetful("the last 8 acts", "one 0 2 end 0 one 1 2 end 0 one 2 2 end 0 one 3 2 end 0 one 4 2 end 0 "
                + "one 5 2 end 0 one 6 2 one 7 2 end 0 end 0 one 7 2 end 0 end 0;", 1, 0);
        forgetful("no PLACE", "end 5;", 0, 0);
        anyTwoRows();
    }

    /** A PLACE of one with three acts, of which one leads on. */
    private static String leadsOn(int set, int act, String on) {
        return "one " + set + " 3 " + "end 1 ".repeat(act) + on + "end 1 ".repeat(2 - act);
    }

    /** SET 9 is come to by rows of two SETS each, all told apart: by one row twice, or by any two that are unlike. */
    private static void anyTwoRows() {
        for (int a = 0; a < 9; a++) {
            for (int b = 0; b < 9; b++) {
                for (int acts = 0; acts < 9 && a != b; acts++) {
                    String row = leadsOn(a, acts % 3, leadsOn(b, acts / 3, "one 9 2 end 1 end 2 "));
                    dueForgets("deal 2 6 " + row + "6 " + row + ";", 0);
                    anyOtherRow(a, b, row);
                }
            }
        }
    }

    private static void anyOtherRow(int a, int b, String row) {
        for (int c = 0; c < 9; c++) {
            // One more by which the sums of both rows are like; where there is no such SET, any will do.
            int d = Math.min(8, Math.max(0, a + b - c));
            boolean isApart = c != d && c != a && c != b && d != a && d != b;
            for (int acts = 0; acts < 9 && isApart; acts++) {
                String other = leadsOn(c, acts % 3, leadsOn(d, acts / 3, "one 9 2 end 1 end 2 "));
                dueForgets("deal 2 6 " + row + "6 " + other + ";", 1);
            }
        }
    }

    private static void dueForgets(String text, int want) {
        HalfGames x = with(text);
        due("forgets(0) of <" + text + ">", x.forgets(0), want);
        due("forgets(1) of <" + text + ">", x.forgets(1), 0);
    }

    private static void forgetful(String what, String text, int one, int two) {
        HalfGames x = with(text);
        due(what + ": forgets(0)", x.forgets(0), one);
        due(what + ": forgets(1)", x.forgets(1), two);
        due(what + ": rounds(1)", x.rounds(1), one + two > 0 ? STATE : 1);
        boolean[] isState = {one == 1, two == 1};
        for (int player = 0; player < 2; player++) {
            due(what + ": best(p, 0) is STATE", x.best(player, 0) == STATE ? 1 : 0, isState[player] ? 1 : 0);
            due(what + ": best(p, 1) is STATE", x.best(player, 1) == STATE ? 1 : 0, isState[player] ? 1 : 0);
            due(what + ": OPEN is STATE", x.best(1 - player, 2) == STATE ? 1 : 0, isState[player] ? 1 : 0);
        }
        for (int set = 0; set < 10; set++) {
            if (x.seen(set, 2) > 0) {
                int state = isState[(int) x.seen(set, 0)] ? 1 : 0;
                due(what + ": answer is STATE", x.answer(set) == STATE ? 1 : 0, state);
                due(what + ": seeing is STATE", x.seeing(set) == STATE ? 1 : 0, state);
                due(what + ": fewer is STATE", x.fewer(set, 1) == STATE ? 1 : 0, state);
            }
        }
    }

    private static void termsOfSeeing() {
        about("SEEING of a SET of one PLACE: nothing more");
        due("seeing(0)", with("deal 2 6 one 0 2 end 1 end 9 6 end 3;").seeing(0), 0);
        about("SEEING of two: less");
        due("seeing(0)", with("deal 2 6 two 0 2 end 1 end 9 6 two 0 2 end 9 end 1;").seeing(0), 4 * WHOLE);
        about("SEEING of one: more");
        due("seeing(0)", with("deal 2 6 one 0 2 end 1 end 9 6 one 0 2 end 9 end 1;").seeing(0), 4 * WHOLE);
        about("SEEING: behind it still, though a SET lies between");
        String behind = "one 0 2 one 1 2 one 2 2 end A end B end 0 end 0 ";
        HalfGames x = with("deal 2 6 " + behind.replace("A", "8").replace("B", "0")
                + "6 " + behind.replace("A", "0").replace("B", "6") + ";");
        due("best(0, 0)", x.best(0, 0), 4 * WHOLE);
        due("seeing(0)", x.seeing(0), 3 * WHOLE);
        due("seeing(1)", x.seeing(1), 3 * WHOLE);
        due("seeing(2)", x.seeing(2), 3 * WHOLE);
        about("SEEING: by none of its PLACES they are of one SET still");
        HalfGames y = with("deal 4 3 one 0 2 end 1 end 9 3 one 0 2 end 9 end 1 "
                + "3 one 1 2 end 2 end 8 3 one 1 2 end 8 end 2;");
        due("seeing(0)", y.seeing(0), 4 * (WHOLE / 2));
        due("seeing(1)", y.seeing(1), 3 * (WHOLE / 2));
        about("FEWER: one act of two is left, two of three");
        HalfGames z = with("one 0 2 end 8 two 1 3 end 5 end 4 end 6;");
        mix(z, 0, 0, 12);
        due("fewer(0, 0)", z.fewer(0, 0), 5 * WHOLE);
        due("fewer(0, 1)", z.fewer(0, 1), 8 * WHOLE);
        due("fewer(1, 0)", z.fewer(1, 0), 4 * WHOLE);
        due("fewer(1, 1)", z.fewer(1, 1), 5 * WHOLE);
        due("fewer(1, 2)", z.fewer(1, 2), 4 * WHOLE);
        due("the act that is barred is not barred behind it", z.best(1, 0), 4 * WHOLE);
        due("nor for the other", z.best(0, 0), 8 * WHOLE);
        about("FEWER: barred in all PLACES of the SET, in no other SET");
        HalfGames w = with("deal 3 4 one 0 2 end 9 end 1 4 one 0 2 end 9 end 2 4 one 3 2 end 9 end 3;");
        due("fewer(0, 0)", w.fewer(0, 0), (1 + 2 + 9) * (WHOLE / 3));
        due("fewer(3, 0)", w.fewer(3, 0), (9 + 9 + 3) * (WHOLE / 3));
    }

    private static void promise21To24() {
        about("rounds: 1 to 60");
        taken("rounds(n)", 1, 60, BAD, n -> with(PENNIES).rounds(n));
        about("rounds: n more, or as many as there may be");
        for (int first : new int[] {1, 2, 30, 58, 59, 60}) {
            for (int more : new int[] {1, 2, 30, 59, 60}) {
                HalfGames x = with(PENNIES);
                due("rounds(" + first + ")", x.rounds(first), first);
                due("rounds(" + more + ") behind it", x.rounds(more), Math.min(60, first + more));
                due("count(5)", x.count(5), Math.min(60, first + more));
                due("bound(2)", x.bound(2), Math.min(60, first + more));
                due("all of them", x.mean(0, 0) + x.mean(0, 1), Math.min(60, first + more));
            }
        }
        about("rounds: 60 at once are 60 one by one");
        HalfGames x = with(CARDS);
        HalfGames y = with(CARDS);
        x.rounds(60);
        for (int k = 1; k <= 60; k++) {
            due("rounds(1)", y.rounds(1), k);
        }
        for (int what = 0; what < 3; what++) {
            due("bound(" + what + ")", y.bound(what), x.bound(what));
        }
        due("rounds(1) when there are 60", y.rounds(1), 60);
        due("bound(0) is as it was", y.bound(0), x.bound(0));
        due("bound(1) is as it was", y.bound(1), x.bound(1));
        about("rounds: they begin anew when a GAME is read");
        due("the same GAME", read(y, CARDS), 11);
        due("count(5)", y.count(5), 0);
        due("bound(0)", y.bound(0), STATE);
        due("bound(1)", y.bound(1), STATE);
        due("bound(2)", y.bound(2), 0);
        due("mean(0, 0)", y.mean(0, 0), 0);
        due("take(0)", y.take(0), BAD);
        due("rounds(60)", y.rounds(60), 60);
        due("bound(0)", y.bound(0), x.bound(0));
        due("bound(1)", y.bound(1), x.bound(1));
        about("bound: what 0 to 2");
        taken("bound(what)", 0, 2, BAD, what -> x.bound(what));
        HalfGames before = with(CARDS);
        long[] want = {BAD, STATE, STATE, 0, BAD};
        for (int what = -1; what <= 3; what++) {
            due("bound(" + what + ") before a ROUND", before.bound(what), want[what + 1]);
        }
        about("take: ROUNDS 0 on");
        taken("take(k) of 60", 0, 59, BAD, k -> x.take(k));
        taken("take(k) of 1", 0, 0, BAD, k -> {
            HalfGames z = with(CARDS);
            z.rounds(1);
            return z.take(k);
        });
        due("take(0) of none", with(CARDS).take(0), BAD);
    }

    private static void termsOfRounds() {
        about("in the first ROUND both do act 0 in all SETS");
        HalfGames x = with(largest());
        due("rounds(1)", x.rounds(1), 1);
        for (int set = 0; set < 10; set++) {
            due("mean(" + set + ", 0)", x.mean(set, 0), 1);
            due("mean(" + set + ", 1)", x.mean(set, 1), 0);
        }
        about("whatever the PLAN is");
        HalfGames y = with(PENNIES);
        mix(y, 0, 0, 12);
        mix(y, 1, 0, 12);
        y.rounds(1);
        due("mean(0, 0)", y.mean(0, 0), 1);
        due("mean(1, 0)", y.mean(1, 0), 1);
        due("share(0, 1), as it was", y.share(0, 1), 12);
        about("in the second each answers the first alone, not the act that the other does now");
        y.rounds(1);
        due("mean(0, 1)", y.mean(0, 1), 1);
        due("mean(1, 0)", y.mean(1, 0), 2);
        about("the bounds of one ROUND are BEST ANSWERS to act 0");
        for (String text : new String[] {CARDS, FOUR, PENNIES, largest()}) {
            HalfGames z = with(text);
            z.rounds(1);
            due("LOWER", z.bound(0), z.best(1, 0));
            due("UPPER", z.bound(1), z.best(0, 0));
        }
        about("ROUNDS of the most PAY, added");
        HalfGames z = with("end 99;");
        due("rounds(60)", z.rounds(60), 60);
        due("LOWER", z.bound(0), 60 * 99 * WHOLE);
        due("UPPER", z.bound(1), 60 * 99 * WHOLE);
        due("take(59)", z.take(59), 1);
    }

    private static void termsOfKinds() {
        about("DEAR: PAY 50 or more");
        for (int pay = 0; pay < 100; pay++) {
            HalfGames x = with("end " + pay + ";");
            due("kind of end " + pay, x.kind(0), pay < 50 ? 4 : 5);
            due("as(0, 5) of end " + pay, x.as(0, 5), pay < 50 ? KIND : 0);
            due("as(0, 4) of end " + pay, x.as(0, 4), 0);
            due("SIZE of end " + pay, x.ask(0, 0), pay < 50 ? pay : 2 * pay);
            due("MARK of end " + pay, x.ask(0, 1), pay < 50 ? 0 : 2 * pay);
        }
        about("SEEN: its SET has another PLACE");
        HalfGames x = with("deal 3 4 one 5 2 end 1 end 2 4 one 5 2 end 3 end 4 4 one 6 2 end 5 end 6;");
        due("of the first of two", x.kind(1), 3);
        due("of the second of two", x.kind(4), 3);
        due("of one alone", x.kind(7), 2);
        read(x, "deal 2 6 end 1 6 one 5 2 end 1 end 2;");
        due("of the GAME that stands, not the one before", x.kind(2), 2);
    }

    private static void promise25To28() {
        about("as: KINDS 0 to 5");
        HalfGames x = with(CARDS);
        long[] of = {BAD, 2, KIND, 2, 2, KIND, KIND, BAD};
        for (int kind = -1; kind <= 6; kind++) {
            due("as(2, " + kind + ")", x.as(2, kind), of[kind + 1]);
        }
        for (int kind : FAR) {
            due("as(2, " + kind + ")", x.as(2, kind), BAD);
        }
        about("ask: 0, 1");
        taken("ask(0, what)", 0, 1, BAD, what -> x.ask(0, what));
        taken("ask(3, what)", 0, 1, BAD, what -> x.ask(3, what));
        about("trace: NONE below 0 and behind the last");
        HalfGames y = with(FOUR);
        for (int i : new int[] {0, 1, 15, 16, -1, MOST, LEAST}) {
            due("trace(" + i + ") before an ASK", y.trace(i), NONE);
        }
        y.ask(2, 0);
        int[] bodies = {13, 12, 10, 21, 20};
        for (int i = -3; i < 20; i++) {
            due("trace(" + i + ") of the longest", y.trace(i), i >= 0 && i < 5 ? bodies[i] : NONE);
        }
        for (int i : FAR) {
            due("trace(" + i + ")", y.trace(i), NONE);
        }
        about("THE TRACE is empty ahead of an ASK");
        y.ask(0, 1);
        due("trace(0)", y.trace(0), 20);
        due("trace(1)", y.trace(1), NONE);
        for (int again = 0; again < 20; again++) {
            y.ask(2, 0);
        }
        due("trace(4) of the last of 20", y.trace(4), 20);
        due("trace(5) of the last of 20", y.trace(5), NONE);
        about("THE TRACE is as the latest ASK left it when a GAME is read");
        read(y, "end 1;");
        due("trace(0)", y.trace(0), 13);
    }

    private static void promise29() {
        about("count: 0 to 6");
        taken("count(what)", 0, 6, BAD, what -> new HalfGames().count(what));
        HalfGames x = with(largest());
        taken("count(what) of the largest", 0, 6, BAD, what -> x.count(what));
        due("ends and deals and PLACES of SETS", x.count(2) + x.count(3) + 10, 60);
        for (int row = 0; row < 8; row++) {
            due("count(0)", x.count(0), row);
            x.row(row, 0, 0);
        }
        due("count(0)", x.count(0), 8);
        x.row(3, 1, 40);
        due("a ROW in place of another", x.count(0), 8);
        about("count: the tape that is not read yet");
        x.feed(0, 8);
        due("count(6)", x.count(6), 8);
        due("count(1), of the GAME that stands", x.count(1), 60);
    }

    private static void promise30() {
        about("status: the latest call with a ROW, or as()");
        due("there was none", new HalfGames().status(), 0);
        due("a GAME, and no such call", with(CARDS).status(), 0);
        HalfGames x = withRows(CARDS);
        for (int finding = 1; finding <= 5; finding++) {
            find(x, finding);
            due("FINDING " + finding, x.status(), finding);
            due("and again", x.status(), finding);
        }
        about("status: a GAME that is read and ROUNDS are no calls with a ROW");
        read(x, CARDS);
        x.rounds(2);
        x.take(1);
        x.feed(0, 1);
        due("STORE, still", x.status(), 5);
        about("status: 0 behind each call with a ROW that has none");
        for (int call = 0; call < 6; call++) {
            HalfGames y = withRows(CARDS);
            y.set(0, -1, 0);
            due("PLACE", y.status(), 2);
            if (call == 0) {
                y.row(0, 0, 0);
            } else if (call == 1) {
                y.set(0, 0, 0);
            } else if (call == 2) {
                y.copy(0, 0, 1, 0, 0);
            } else if (call == 3) {
                y.drop(0);
            } else if (call == 4) {
                y.mix(0, 1, 0);
            } else {
                y.as(0, 0);
            }
            due("behind call " + call, y.status(), 0);
        }
    }

    private static void find(HalfGames x, int finding) {
        if (finding == 1) {
            x.drop(0);
            due("NULL", x.set(0, 0, 0), NULL);
        } else if (finding == 2) {
            due("PLACE", x.set(1, 2, 0), PLACE);
        } else if (finding == 3) {
            due("KIND", x.as(0, 2), KIND);
        } else if (finding == 4) {
            due("SIZE", x.row(0, 0, -1), SIZE);
        } else {
            x.row(2, 0, 2);
            due("STORE", x.copy(1, 0, 2, 0, 1), STORE);
        }
    }

    private static void theLastCall() {
        about("at most 512 calls: the last is answered as the first");
        HalfGames x = new HalfGames();
        due("call 1", x.row(0, 2, 2), 2);
        for (int call = 2; call < 490; call++) {
            due("call " + call, x.set(0, call % 2, call), call);
        }
        feed(x, PENNIES);
        due("call 497", x.game(), 7);
        due("call 498", x.rounds(60), 60);
        for (int call = 499; call < 512; call++) {
            due("call " + call, x.take(call - 490), 1);
        }
        due("call 512", x.take(1), 1);
    }
}
