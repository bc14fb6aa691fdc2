import java.util.ArrayList;
import java.util.Arrays;
import java.util.Collections;
import java.util.List;
import java.util.TreeSet;

/**
 * The document once more, with all of Java and no thought of room or speed, to be set beside HalfGames. Where the
 * document follows the machine, the machine itself is asked: ROWS are arrays, FINDINGS are what it throws.
 */
public final class PlainGames {
    private static final long NOT = -9000000000000000000L;
    private static final int NONE = -1000000;

    /** A refusal on its way out of a call. */
    private static final class Refused extends Exception {
        private static final long serialVersionUID = 1L;
        final long told;

        Refused(long told) {
            this.told = told;
        }
    }

    private interface Call {
        long make() throws Refused;
    }

    private final Object[] rows = new Object[8];
    private String tape = "";
    private PlainText text = null;
    private int[][] plan = null;
    private List<int[][]> rounds = new ArrayList<>();
    private List<Integer> trace = new ArrayList<>();
    private int fault = 0;
    private int status = 0;

    private static long call(Call call) {
        try {
            return call.make();
        } catch (Refused refused) {
            return refused.told;
        }
    }

    /** A call that status() tells of: what the machine throws in it is its FINDING. */
    private long callThatFinds(Call call) {
        int finding = 0;
        long told = 0;
        try {
            told = call.make();
        } catch (Refused refused) {
            return refused.told;
        } catch (NullPointerException thrown) {
            finding = 1;
        } catch (IndexOutOfBoundsException thrown) {
            finding = 2;
        } catch (ClassCastException thrown) {
            finding = 3;
        } catch (NegativeArraySizeException thrown) {
            finding = 4;
        } catch (ArrayStoreException thrown) {
            finding = 5;
        }
        status = finding;
        return finding == 0 ? told : NOT - 10 - finding;
    }

    private static void badUnless(boolean isAsTold) throws Refused {
        if (!isAsTold) {
            throw new Refused(NOT - 1);
        }
    }

    private static void stateUnless(boolean isAsTold) throws Refused {
        if (!isAsTold) {
            throw new Refused(NOT - 2);
        }
    }

    private static boolean isWithin(int number, int least, int most) {
        return number >= least && number <= most;
    }

    // ---- rows

    public long row(int row, int lane, int n) {
        return callThatFinds(() -> {
            badUnless(isWithin(row, 0, 7) && isWithin(lane, 0, 2) && n <= 40);
            rows[row] = lane == 0 ? new byte[n] : lane == 1 ? new short[n] : new int[n];
            return n;
        });
    }

    public long set(int row, int i, int v) {
        return callThatFinds(() -> {
            badUnless(isWithin(row, 0, 7));
            if (rows[row] instanceof byte[] bytes) {
                bytes[i] = (byte) v;
                return bytes[i];
            }
            if (rows[row] instanceof short[] shorts) {
                shorts[i] = (short) v;
                return shorts[i];
            }
            int[] ints = (int[]) rows[row];
            ints[i] = v;
            return ints[i];
        });
    }

    public long copy(int a, int i, int b, int j, int n) {
        return callThatFinds(() -> {
            badUnless(isWithin(a, 0, 7) && isWithin(b, 0, 7));
            System.arraycopy(rows[a], i, rows[b], j, n);
            return n;
        });
    }

    public long drop(int row) {
        return callThatFinds(() -> {
            badUnless(isWithin(row, 0, 7));
            int had = java.lang.reflect.Array.getLength(rows[row]);
            rows[row] = null;
            return had;
        });
    }

    // ---- games

    public long feed(long w, int n) {
        return call(() -> {
            badUnless(isWithin(n, 1, 8));
            if (tape.length() + n > 600) {
                throw new Refused(NOT - 3);
            }
            String come = "";
            for (int k = 0; k < n; k++) {
                come = (char) (w >> 8 * k & 255) + come;
            }
            tape += come;
            return tape.length();
        });
    }

    public long game() {
        String told = tape;
        tape = "";
        try {
            text = new PlainText(told);
        } catch (PlainText.Fault found) {
            fault = found.number;
            return NOT - 100 - found.at;
        }
        plan = firstActs();
        rounds = new ArrayList<>();
        return text.places.size();
    }

    public int fault() {
        return fault;
    }

    private PlainPlace placeAt(int place) throws Refused {
        badUnless(text != null && isWithin(place, 0, text.places.size() - 1));
        return text.places.get(place);
    }

    /** The PLACES of a SET; none: it is BAD. */
    private List<PlainPlace> placesOf(int set) throws Refused {
        badUnless(text != null && !text.placesOf(set).isEmpty());
        return text.placesOf(set);
    }

    private void badUnlessAct(int set, int act) throws Refused {
        badUnless(isWithin(act, 0, placesOf(set).get(0).below.size() - 1));
    }

    public long place(int place, int what) {
        return call(() -> {
            PlainPlace it = placeAt(place);
            badUnless(isWithin(what, 0, 5));
            return new long[] {List.of("end", "deal", "one", "two").indexOf(it.word), it.pay, it.set, it.below.size(),
                it.above == null ? NONE : it.above.number, it.waysTo()}[what];
        });
    }

    public long seen(int set, int what) {
        return call(() -> {
            badUnless(isWithin(set, 0, 9) && isWithin(what, 0, 2));
            List<PlainPlace> of = text == null ? List.of() : text.placesOf(set);
            if (of.isEmpty()) {
                return what == 0 ? NONE : 0;
            }
            return what == 0 ? of.get(0).player() : what == 1 ? of.get(0).below.size() : of.size();
        });
    }

    private boolean doesForget(int player) {
        if (text == null) {
            return false;
        }
        for (int set = 0; set < 10; set++) {
            TreeSet<String> pasts = new TreeSet<>();
            for (PlainPlace it : text.placesOf(set)) {
                if (it.player() == player) {
                    pasts.add(it.past());
                }
            }
            if (pasts.size() > 1) {
                return true;
            }
        }
        return false;
    }

    public long forgets(int player) {
        return call(() -> {
            badUnless(isWithin(player, 0, 1));
            return doesForget(player) ? 1 : 0;
        });
    }

    // ---- plans

    private static int[][] firstActs() {
        int[][] acts = new int[10][3];
        for (int[] shares : acts) {
            shares[0] = 12;
        }
        return acts;
    }

    public long mix(int set, int row, int i) {
        return callThatFinds(() -> {
            int acts = placesOf(set).get(0).below.size();
            badUnless(isWithin(row, 0, 7));
            int[] shares = new int[3];
            for (int act = 0; act < acts; act++) {
                shares[act] = java.lang.reflect.Array.getInt(rows[row], i + act);
            }
            badUnless(Arrays.stream(shares).allMatch(share -> isWithin(share, 0, 12)));
            badUnless(Arrays.stream(shares).sum() == 12);
            plan[set] = shares;
            return 1;
        });
    }

    public long share(int set, int act) {
        return call(() -> {
            badUnlessAct(set, act);
            return plan[set][act];
        });
    }

    private long valueOfPlan() {
        return text.places.stream().filter(PlainPlace::isEnd).mapToLong(it -> it.pay * it.reach(plan, NONE)).sum();
    }

    public long value() {
        return call(() -> {
            stateUnless(text != null);
            return valueOfPlan();
        });
    }

    public long reach(int place, int what) {
        return call(() -> {
            PlainPlace it = placeAt(place);
            badUnless(isWithin(what, 0, 2));
            return it.reach(plan, what == 0 ? NONE : what - 1);
        });
    }

    private PlainAnswer answerOf(int player) {
        return new PlainAnswer(text.places, player, Collections.singletonList(plan));
    }

    private static long moreFor(int player, long before, long then) {
        return player == 0 ? then - before : before - then;
    }

    public long best(int player, int what) {
        return call(() -> {
            badUnless(isWithin(player, 0, 1) && isWithin(what, 0, 2));
            int whose = what < 2 ? player : 1 - player;
            stateUnless(text != null && !doesForget(whose));
            long made = answerOf(whose).value();
            return what == 0 ? made : moreFor(whose, valueOfPlan(), made);
        });
    }

    /** The player of a SET who is to answer. */
    private int whoAnswers(int set) throws Refused {
        int player = placesOf(set).get(0).player();
        stateUnless(!doesForget(player));
        return player;
    }

    public long answer(int set) {
        return call(() -> answerOf(whoAnswers(set)).actAt(placesOf(set).get(0)));
    }

    public long belief(int place, int what) {
        return call(() -> {
            PlainPlace it = placeAt(place);
            badUnless(it.set != NONE && isWithin(what, 0, 1));
            List<PlainPlace> of = what == 0 ? List.of(it) : placesOf(it.set);
            return of.stream().mapToLong(each -> each.reach(plan, NONE)).sum();
        });
    }

    public long seeing(int set) {
        return call(() -> {
            int player = whoAnswers(set);
            PlainAnswer seeing = answerOf(player);
            seeing.apart = set;
            return moreFor(player, answerOf(player).value(), seeing.value());
        });
    }

    public long fewer(int set, int act) {
        return call(() -> {
            badUnlessAct(set, act);
            PlainAnswer fewer = answerOf(whoAnswers(set));
            fewer.barredSet = set;
            fewer.barredAct = act;
            return fewer.value();
        });
    }

    // ---- rounds

    private int[][] nextActs() {
        int[][] acts = firstActs();
        for (int set = 0; set < 10 && !rounds.isEmpty(); set++) {
            if (!text.placesOf(set).isEmpty()) {
                PlainPlace first = text.placesOf(set).get(0);
                acts[set] = new int[3];
                acts[set][new PlainAnswer(text.places, first.player(), rounds).actAt(first)] = 12;
            }
        }
        return acts;
    }

    public long rounds(int n) {
        return call(() -> {
            badUnless(isWithin(n, 1, 60));
            stateUnless(text != null && !doesForget(0) && !doesForget(1));
            for (int k = 0; k < n && rounds.size() < 60; k++) {
                rounds.add(nextActs());
            }
            return rounds.size();
        });
    }

    public long bound(int what) {
        return call(() -> {
            badUnless(isWithin(what, 0, 2));
            if (what == 2) {
                return rounds.size();
            }
            stateUnless(!rounds.isEmpty());
            return new PlainAnswer(text.places, what == 1 ? 0 : 1, rounds).value();
        });
    }

    public long mean(int set, int act) {
        return call(() -> {
            badUnlessAct(set, act);
            return rounds.stream().filter(acts -> acts[set][act] == 12).count();
        });
    }

    public long take(int k) {
        return call(() -> {
            badUnless(isWithin(k, 0, rounds.size() - 1));
            plan = rounds.get(k).clone();
            return 1;
        });
    }

    // ---- asked

    public long kind(int place) {
        return call(() -> PlainKinds.numberOf(PlainKinds.of(placeAt(place), trace)));
    }

    public long as(int place, int kind) {
        return callThatFinds(() -> {
            PlainPlace it = placeAt(place);
            badUnless(isWithin(kind, 0, 5));
            PlainKinds.KINDS.get(kind).cast(PlainKinds.of(it, trace));
            return it.waysTo();
        });
    }

    public long ask(int place, int what) {
        return call(() -> {
            PlainPlace it = placeAt(place);
            badUnless(isWithin(what, 0, 1));
            trace = new ArrayList<>();
            PlainKinds.Place asked = PlainKinds.of(it, trace);
            return what == 0 ? asked.size() : asked.mark();
        });
    }

    public int trace(int i) {
        return isWithin(i, 0, Math.min(16, trace.size()) - 1) ? trace.get(i) : NONE;
    }

    public long count(int what) {
        List<PlainPlace> places = text == null ? List.of() : text.places;
        return switch (what) {
            case 0 -> Arrays.stream(rows).filter(row -> row != null).count();
            case 1 -> places.size();
            case 2 -> places.stream().filter(PlainPlace::isEnd).count();
            case 3 -> places.stream().filter(it -> it.word.equals("deal")).count();
            case 4 -> places.stream().filter(it -> it.set != NONE).map(it -> it.set).distinct().count();
            case 5 -> rounds.size();
            case 6 -> tape.length();
            default -> NOT - 1;
        };
    }

    public int status() {
        return status;
    }
}
