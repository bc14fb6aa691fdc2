import java.nio.charset.StandardCharsets;

/** What the tests share: the refusals by name, texts that are fed and read, and how many answers were not as due. */
abstract class Checks {
    static final long BAD = HalfGames.NOT - 1;
    static final long STATE = HalfGames.NOT - 2;
    static final long FULL = HalfGames.NOT - 3;
    static final long NULL = HalfGames.NOT - 11;
    static final long PLACE = HalfGames.NOT - 12;
    static final long KIND = HalfGames.NOT - 13;
    static final long SIZE = HalfGames.NOT - 14;
    static final long STORE = HalfGames.NOT - 15;
    static final long NONE = HalfGames.NONE;
    static final long WHOLE = 12L * 12 * 12 * 12 * 12 * 12 * 12 * 12;
    static final int LEAST = Integer.MIN_VALUE;
    static final int MOST = Integer.MAX_VALUE;

    /** One is dealt high or low and may fold; two sees none of it. */
    static final String CARDS =
            "deal 2 6 one 0 2 two 2 2 end 60 end 70 end 55 6 one 1 2 two 2 2 end 60 end 30 end 45;";
    /** One does not know at SET 1 what they did at SET 0. */
    static final String FORGOTTEN = "one 0 2 one 1 2 end 1 end 2 one 1 2 end 3 end 0;";
    /** A deal of four: an end, a SET of two PLACES, and one of two. */
    static final String FOUR =
            "deal 4 3 end 1 3 one 0 2 end 5 end 6 3 one 0 2 end 9 end 2 3 two 1 2 end 0 end 99;";
    /** One gets 9 if the acts are unlike. */
    static final String PENNIES = "one 0 2 two 1 2 end 0 end 9 two 1 2 end 9 end 0;";

    private static final int MOST_TOLD = 20;

    private static int wrong = 0;
    private static int checked = 0;
    private static String about = "";

    /** What the answers from here on are about: told with each that is not as due. */
    static void about(String sentence) {
        about = sentence;
    }

    static void due(String call, long got, long want) {
        checked++;
        if (got != want) {
            fail(call + " answered " + got + ", due is " + want);
        }
    }

    static void fail(String what) {
        wrong++;
        if (wrong <= MOST_TOLD) {
            System.out.println(about + ": " + what);
        }
    }

    static void finish() {
        System.out.println(checked + " answers, " + (wrong == 0 ? "all as due" : wrong + " not as due"));
        if (wrong != 0) {
            System.exit(1);
        }
    }

    static void feed(HalfGames x, String text) {
        byte[] bytes = text.getBytes(StandardCharsets.ISO_8859_1);
        for (int at = 0; at < bytes.length; at += 8) {
            int n = Math.min(8, bytes.length - at);
            long w = 0;
            for (int k = 0; k < n; k++) {
                w = w << 8 | bytes[at + k] & 255;
            }
            x.feed(w, n);
        }
    }

    static long read(HalfGames x, String text) {
        feed(x, text);
        return x.game();
    }

    static HalfGames with(String text) {
        HalfGames x = new HalfGames();
        if (read(x, text) < 1) {
            fail("game() does not read " + text);
        }
        return x;
    }

    static void dueFault(String text, long place, int number) {
        HalfGames x = new HalfGames();
        due("game() of <" + text + ">", read(x, text), HalfGames.NOT - 100 - place);
        due("fault() of <" + text + ">", x.fault(), number);
        due("count(1) behind it", x.count(1), 0);
        due("count(6) behind it", x.count(6), 0);
    }

    static void dueRead(String text, long places) {
        HalfGames x = new HalfGames();
        due("game() of <" + text + ">", read(x, text), places);
        due("fault() of <" + text + ">", x.fault(), 0);
        due("count(1) behind it", x.count(1), places);
        due("count(6) behind it", x.count(6), 0);
    }

    /** A row of ints with these ITEMS. */
    static void lay(HalfGames x, int row, int... items) {
        x.row(row, 2, items.length);
        for (int i = 0; i < items.length; i++) {
            x.set(row, i, items[i]);
        }
    }

    static void mix(HalfGames x, int set, int... shares) {
        lay(x, 7, shares);
        due("mix of SET " + set, x.mix(set, 7, 0), 1);
    }
}
