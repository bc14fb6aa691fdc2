import java.lang.reflect.InvocationTargetException;
import java.lang.reflect.Method;
import java.lang.reflect.Modifier;
import java.util.ArrayList;
import java.util.Arrays;
import java.util.HashMap;
import java.util.List;
import java.util.Map;
import java.util.Random;

/** Whole runs of 512 calls by fixed seeds, each answer set beside that of PlainGames. */
public final class RunTest extends Checks {
    private static final int RUNS = 1500;
    private static final int MOST_CALLS = 512;
    private static final int[] EDGES = {LEAST, LEAST + 1, -1000000, -2, -1, 0, 1, 12, 13, 40, 41, 60, 61, 255, 256, 600,
        MOST - 40, MOST - 1, MOST};
    /** Each call by what its numbers are: of what is named here they are mostly as told, or one beside it. */
    private static final String[] CALLS = {
        "row row lane length", "set row item any", "copy row item row item length", "drop row", "feed word eight",
        "game", "fault", "place place six", "seen set three", "forgets player", "mix set row item", "share set act",
        "value", "reach place three", "best player three", "answer set", "belief place player", "seeing set",
        "fewer set act", "rounds few", "bound three", "mean set act", "take few", "kind place", "as place six",
        "ask place player", "trace six", "count seven", "status"};
    private static final String[] STRAY = {"end", "deal", "one", "two", ";", "0", "1", "2", "3", "4", "6", "9", "10",
        "11", "12", "13", "99", "100", "ends", "x", "!", "E", "-1", "", "end 5", "one 0 2", "two 0 3", "deal 2 6"};

    private static final Map<String, Method> OF_GAMES = new HashMap<>();
    private static final Map<String, Method> OF_PLAIN = new HashMap<>();
    /** How many FAULTS of each number were told. */
    private static final int[] FAULTS = new int[4];

    private static int taken = 0;
    private static int refused = 0;
    private static int full = 0;

    private final Random random;
    private final HalfGames x = new HalfGames();
    private final PlainGames plain = new PlainGames();
    private final List<String> told = new ArrayList<>();

    private RunTest(long seed) {
        random = new Random(seed);
    }

    private boolean isOver() {
        return told.size() >= MOST_CALLS;
    }

    /** Makes a call on both, unless this run has had all of its calls. */
    private long call(String name, Object... numbers) {
        if (isOver()) {
            return 0;
        }
        String call = name + Arrays.toString(numbers);
        told.add(call);
        long got = invoke(OF_GAMES.get(name), x, numbers);
        long want = invoke(OF_PLAIN.get(name), plain, numbers);
        if (got != want) {
            int from = Math.max(0, told.size() - 40);
            about("behind " + told.subList(from, told.size()));
        }
        due(call, got, want);
        taken += got > HalfGames.NOT ? 1 : 0;
        refused += got < HalfGames.NOT && got > HalfGames.NOT - 100 ? 1 : 0;
        full += got == FULL ? 1 : 0;
        return got;
    }

    private static long invoke(Method method, Object on, Object... numbers) {
        try {
            return ((Number) method.invoke(on, numbers)).longValue();
        } catch (IllegalAccessException | InvocationTargetException thrown) {
            fail(method + " on " + Arrays.toString(numbers) + ": " + thrown.getCause());
            return 0;
        }
    }

    private int upTo(int most) {
        return random.nextInt(most + 1);
    }

    private boolean isOneOf(int many) {
        return random.nextInt(many) == 0;
    }

    private Object number(String what) {
        if (what.equals("word")) {
            return isOneOf(2) ? 0x2020206f6e652030L : random.nextLong();
        }
        if (isOneOf(30)) {
            return EDGES[random.nextInt(EDGES.length)];
        }
        int beside = isOneOf(12) ? upTo(2) - 1 : 0;
        return beside + switch (what) {
            case "row" -> upTo(3) * (isOneOf(10) ? 3 : 1);
            case "lane", "three" -> upTo(2);
            case "length" -> isOneOf(5) ? 40 : upTo(6);
            case "item" -> isOneOf(6) ? upTo(40) : upTo(4);
            case "eight" -> 1 + upTo(7);
            case "place" -> isOneOf(10) ? upTo(60) : upTo((int) Math.max(0, plain.count(1) - 1));
            case "six" -> upTo(5);
            case "seven" -> upTo(6);
            case "set" -> upTo(9);
            case "act" -> upTo(isOneOf(3) ? 2 : 1);
            case "player" -> upTo(1);
            case "few" -> isOneOf(12) ? upTo(60) : 1 + upTo(4);
            default -> isOneOf(4) ? random.nextInt() : upTo(12);
        };
    }

    /** Any call but those that make a text or a GAME out of nothing too often. */
    private void callAny() {
        String[] parts = CALLS[random.nextInt(CALLS.length)].split(" ");
        if (parts[0].equals("game") || parts[0].equals("feed")) {
            if (!isOneOf(8)) {
                return;
            }
        }
        Object[] numbers = new Object[parts.length - 1];
        for (int k = 0; k < numbers.length; k++) {
            numbers[k] = number(parts[k + 1]);
        }
        call(parts[0], numbers);
    }

    private void feedText(String text) {
        int at = 0;
        while (at < text.length() && !isOver()) {
            int n = Math.min(text.length() - at, isOneOf(9) ? 1 + upTo(7) : 8);
            long w = random.nextLong();
            for (int k = 0; k < n; k++) {
                w = w << 8 | text.charAt(at + k);
            }
            call("feed", w, n);
            at += n;
        }
    }

    /** Blanks that nothing needs are left out: so texts of more than 60 PLACES come to the tape. */
    private String madeText() {
        String text = new MadeGame(random.nextLong(), isOneOf(6) ? 75 : 60).out.toString();
        return text.length() > 600 || isOneOf(4) ? text.replaceAll("\\s(?=[a-z;])|(?<=[a-z])\\s", "") : text;
    }

    /** A text as it is made, or with some TOKENS taken out, put in or exchanged, or a byte of it, or too long. */
    private String anyText() {
        String text = madeText();
        if (isOneOf(2)) {
            return text;
        }
        if (isOneOf(12)) {
            return text.replaceAll("\\s", " ".repeat(1 + upTo(8))) + " ".repeat(upTo(300));
        }
        List<String> tokens = new ArrayList<>(Arrays.asList(text.split("(?<=[ \n])")));
        for (int changes = upTo(2); changes >= 0; changes--) {
            change(tokens);
        }
        String changed = String.join("", tokens);
        if (!changed.isEmpty() && isOneOf(8)) {
            int at = random.nextInt(changed.length());
            changed = changed.substring(0, at) + (char) upTo(255) + changed.substring(at + upTo(1));
        }
        return changed;
    }

    private void change(List<String> tokens) {
        int at = random.nextInt(tokens.size());
        String stray = STRAY[random.nextInt(STRAY.length)] + (isOneOf(5) ? "" : " ");
        switch (upTo(4)) {
            case 0 -> tokens.remove(at);
            case 1 -> tokens.add(at, stray);
            case 2 -> tokens.set(at, tokens.get(at).trim());
            default -> tokens.set(at, stray);
        }
        if (tokens.isEmpty()) {
            tokens.add(stray);
        }
    }

    private void readAny() {
        feedText(anyText());
        if (call("game") <= HalfGames.NOT - 100 && !isOver()) {
            FAULTS[(int) call("fault")]++;
        }
    }

    /** Shares for one SET that has PLACES, mostly such that they are taken, at times from a ROW they are copied to. */
    private void mixAny() {
        int set = upTo(9);
        int acts = (int) plain.seen(set, 1);
        if (acts == 0) {
            return;
        }
        int row = upTo(7);
        int from = upTo(3);
        int lane = upTo(2);
        call("row", row, lane, from + acts + (isOneOf(12) ? -1 : upTo(2)));
        int[] shares = anyShares(acts);
        for (int act = 0; act < acts; act++) {
            call("set", row, from + act, shares[act]);
        }
        if (isOneOf(3)) {
            int other = upTo(7);
            int to = upTo(3);
            call("row", other, isOneOf(12) ? upTo(2) : lane, 8);
            call("copy", row, from, other, to, acts);
            call("mix", set, other, to + (isOneOf(12) ? 1 : 0));
        } else {
            call("mix", set, row, from);
        }
        call("status");
    }

    private int[] anyShares(int acts) {
        int[] shares = new int[acts];
        int left = 12;
        for (int act = 0; act < acts - 1; act++) {
            shares[act] = upTo(left);
            left -= shares[act];
        }
        shares[acts - 1] = left;
        if (isOneOf(8)) {
            // Still 12 together, or by their lowest bits: only one by one are they not as told.
            int by = isOneOf(2) ? 13 : 256;
            shares[0] += by;
            shares[1] -= isOneOf(2) ? by : 0;
        }
        return shares;
    }

    private void run() {
        readAny();
        while (!isOver()) {
            switch (upTo(5)) {
                case 0 -> readAny();
                case 1 -> mixAny();
                default -> {
                    for (int k = 0; k < 25; k++) {
                        callAny();
                    }
                }
            }
        }
    }

    private static void findMethods(Class<?> of, Map<String, Method> into) {
        for (Method m : of.getDeclaredMethods()) {
            if (Modifier.isPublic(m.getModifiers())) {
                into.put(m.getName(), m);
            }
        }
        due("calls of " + of, into.size(), CALLS.length);
    }

    public static void main(String[] args) {
        findMethods(HalfGames.class, OF_GAMES);
        findMethods(PlainGames.class, OF_PLAIN);
        for (long seed = 1; seed <= RUNS; seed++) {
            about("run " + seed);
            new RunTest(seed).run();
        }
        System.out.println(RUNS + " runs: " + taken + " calls taken, " + refused + " refused, " + full
                + " of them FULL; " + FAULTS[1] + ", " + FAULTS[2] + ", " + FAULTS[3] + " FAULTS 1, 2, 3");
        boolean isEach = Math.min(Math.min(FAULTS[1], FAULTS[2]), FAULTS[3]) > 50;
        if (!isEach || full < 50 || refused < RUNS * 50 || taken < RUNS * 100) {
            fail("these are not the runs that were meant");
        }
        finish();
    }
}
