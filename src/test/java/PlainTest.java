import java.util.ArrayList;
import java.util.Collections;
import java.util.HashMap;
import java.util.List;
import java.util.Map;

/**
 * Games made by a fixed seed, worked out a second time in the plainest way: trees of objects, pure plans tried
 * one by one, the document's own sentences as recursion.
 */
public final class PlainTest extends Checks {
    private static String text = "";

    /** Which PLACES are of one SET: told by a key, so that SEEING can tell them otherwise. */
    private static Map<MadePlace, String> keys(List<MadePlace> nodes, int player, int apart) {
        Map<MadePlace, String> keys = new HashMap<>();
        for (MadePlace n : nodes) {
            if (n.player == player) {
                String by = "none";
                for (MadePlace m = n; m != null; m = m.above) {
                    if (m.set >= 0 && m.set == apart) {
                        by = "by " + m.number;
                    }
                }
                keys.put(n, n.set + " " + by);
            }
        }
        return keys;
    }

    private static long ownReach(MadePlace n, int leftOut, int[][] shares) {
        long reach = WHOLE;
        for (MadePlace m = n; m.above != null; m = m.above) {
            MadePlace a = m.above;
            int part = a.player < 0 ? m.shareIn : a.player == leftOut ? 12 : shares[a.set][m.turn];
            reach = reach / 12;
            reach *= part;
        }
        return reach;
    }

    /** The same product, but in the document's order of words. */
    private static long reachByPower(MadePlace n, int[][] shares) {
        long reach = 1;
        int ways = 0;
        for (MadePlace m = n; m.above != null; m = m.above) {
            reach *= m.above.player < 0 ? m.shareIn : shares[m.above.set][m.turn];
            ways++;
        }
        for (int k = ways; k < 8; k++) {
            reach *= 12;
        }
        return reach;
    }

    /** The BEST ANSWER, sentence by sentence, with nothing kept. */
    private static final class Answer {
        final List<MadePlace> nodes;
        final int player;
        final Map<MadePlace, String> keys;
        final long[] own;
        int barredSet = -1;
        int barredAct = -1;

        Answer(List<MadePlace> nodes, int player, int apart, List<int[][]> against) {
            this.nodes = nodes;
            this.player = player;
            keys = keys(nodes, player, apart);
            own = new long[nodes.size()];
            for (MadePlace n : nodes) {
                if (n.what.equals("end")) {
                    for (int[][] shares : against) {
                        own[n.number] += ownReach(n, player, shares);
                    }
                }
            }
        }

        long worth(MadePlace n) {
            if (n.what.equals("end")) {
                return n.pay * own[n.number];
            }
            if (n.player == player) {
                return worth(n.below.get(bestAct(n)));
            }
            long all = 0;
            for (MadePlace m : n.below) {
                all += worth(m);
            }
            return all;
        }

        int bestAct(MadePlace n) {
            int best = -1;
            long most = 0;
            for (int act = 0; act < n.below.size(); act++) {
                if (n.set == barredSet && act == barredAct) {
                    continue;
                }
                long all = 0;
                for (MadePlace m : nodes) {
                    if (m.player == player && keys.get(m).equals(keys.get(n))) {
                        all += worth(m.below.get(act));
                    }
                }
                if (best < 0 || (player == 0 ? all > most : all < most)) {
                    best = act;
                    most = all;
                }
            }
            return best;
        }
    }

    /** The most that any pure plan makes, by trying them all; null where they are too many. */
    private static Long tryAll(List<MadePlace> nodes, int player, int apart, int[][] plan, int barredSet,
            int barredAct) {
        Map<MadePlace, String> keys = keys(nodes, player, apart);
        List<String> names = new ArrayList<>();
        List<Integer> sizes = new ArrayList<>();
        List<Integer> sets = new ArrayList<>();
        long many = 1;
        for (MadePlace n : nodes) {
            if (n.player == player && !names.contains(keys.get(n))) {
                names.add(keys.get(n));
                sizes.add(n.below.size());
                sets.add(n.set);
                many *= n.below.size();
            }
            if (many > 1500) {
                return null;
            }
        }
        Long most = null;
        for (long code = 0; code < many; code++) {
            Map<String, Integer> acts = new HashMap<>();
            long rest = code;
            boolean barred = false;
            for (int k = 0; k < names.size(); k++) {
                int act = (int) (rest % sizes.get(k));
                rest /= sizes.get(k);
                acts.put(names.get(k), act);
                barred |= sets.get(k) == barredSet && act == barredAct;
            }
            if (!barred) {
                long made = play(nodes.get(0), player, keys, acts, plan, WHOLE);
                most = most == null || (player == 0 ? made > most : made < most) ? Long.valueOf(made) : most;
            }
        }
        return most;
    }

    private static long play(MadePlace n, int player, Map<MadePlace, String> keys, Map<String, Integer> acts,
            int[][] plan, long reach) {
        if (n.what.equals("end")) {
            return n.pay * reach;
        }
        if (n.player == player) {
            return play(n.below.get(acts.get(keys.get(n))), player, keys, acts, plan, reach);
        }
        long all = 0;
        for (MadePlace m : n.below) {
            all += play(m, player, keys, acts, plan, reach / 12 * (n.player < 0 ? m.shareIn : plan[n.set][m.turn]));
        }
        return all;
    }

    private static boolean forgets(List<MadePlace> nodes, int player) {
        for (MadePlace a : nodes) {
            for (MadePlace b : nodes) {
                if (a.player == player && b.player == player && a.set == b.set
                        && !a.past(player).equals(b.past(player))) {
                    return true;
                }
            }
        }
        return false;
    }

    private static int[][] firstActs() {
        int[][] plan = new int[10][3];
        for (int s = 0; s < 10; s++) {
            plan[s][0] = 12;
        }
        return plan;
    }

    private static int[][] mixPlan(HalfGames x, MadeGame made) {
        int[][] plan = firstActs();
        for (int s = 0; s < 10; s++) {
            if (made.player[s] >= 0) {
                int a = made.random.nextInt(13);
                int b = made.acts[s] == 3 ? made.random.nextInt(13 - a) : 12 - a;
                plan[s] = new int[] {a, b, 12 - a - b};
                x.row(3, s % 3, made.acts[s] + 2);
                for (int k = 0; k < made.acts[s]; k++) {
                    x.set(3, k + 2, plan[s][k]);
                }
                due("mix of " + s, x.mix(s, 3, 2), 1);
            }
        }
        return plan;
    }

    private static void checkPlaces(HalfGames x, MadeGame made, int[][] plan) {
        long value = 0;
        long[] belief = new long[10];
        for (MadePlace n : made.nodes) {
            due("reach", x.reach(n.number, 0), reachByPower(n, plan));
            due("own reach of one", x.reach(n.number, 1), ownReach(n, 0, plan));
            due("own reach of two", x.reach(n.number, 2), ownReach(n, 1, plan));
            due("WAYS", x.place(n.number, 5), n.depth());
            due("above", x.place(n.number, 4), n.above == null ? HalfGames.NONE : n.above.number);
            value += n.what.equals("end") ? n.pay * reachByPower(n, plan) : 0;
            if (n.set >= 0) {
                belief[n.set] += reachByPower(n, plan);
            }
        }
        due("value", x.value(), value);
        for (MadePlace n : made.nodes) {
            if (n.set >= 0) {
                due("belief", x.belief(n.number, 1), belief[n.set]);
            }
        }
    }

    private static void checkAnswers(HalfGames x, MadeGame made, int[][] plan, int player) {
        boolean forgets = forgets(made.nodes, player);
        due("forgets(" + player + ")", x.forgets(player), forgets ? 1 : 0);
        List<int[][]> against = Collections.singletonList(plan);
        long value = x.value();
        long best = forgets ? STATE : new Answer(made.nodes, player, -1, against).worth(made.nodes.get(0));
        long gain = forgets ? STATE : player == 0 ? best - value : value - best;
        due("best(" + player + ", 0)", x.best(player, 0), best);
        due("best(" + player + ", 1)", x.best(player, 1), gain);
        due("best(" + (1 - player) + ", 2)", x.best(1 - player, 2), gain);
        Long tried = forgets ? null : tryAll(made.nodes, player, -1, plan, -1, -1);
        if (tried != null) {
            due("all plans of " + player, best, tried);
        }
        boolean[] done = new boolean[10];
        for (MadePlace n : made.nodes) {
            if (n.player == player && !done[n.set]) {
                done[n.set] = true;
                checkSet(x, made, plan, n, forgets, best);
            }
        }
    }

    private static void checkSet(HalfGames x, MadeGame made, int[][] plan, MadePlace n, boolean forgets, long best) {
        if (forgets) {
            due("answer", x.answer(n.set), STATE);
            due("seeing", x.seeing(n.set), STATE);
            due("fewer", x.fewer(n.set, 0), STATE);
            return;
        }
        List<int[][]> against = Collections.singletonList(plan);
        due("answer", x.answer(n.set), new Answer(made.nodes, n.player, -1, against).bestAct(n));
        long apart = new Answer(made.nodes, n.player, n.set, against).worth(made.nodes.get(0));
        due("seeing", x.seeing(n.set), n.player == 0 ? apart - best : best - apart);
        Long tried = tryAll(made.nodes, n.player, n.set, plan, -1, -1);
        if (tried != null) {
            due("all plans that see", apart, tried);
        }
        for (int act = 0; act < n.below.size(); act++) {
            Answer barred = new Answer(made.nodes, n.player, -1, against);
            barred.barredSet = n.set;
            barred.barredAct = act;
            due("fewer", x.fewer(n.set, act), barred.worth(made.nodes.get(0)));
            Long most = tryAll(made.nodes, n.player, -1, plan, n.set, act);
            if (most != null) {
                due("all plans that are left", x.fewer(n.set, act), most);
            }
        }
    }

    private static void checkRounds(HalfGames x, MadeGame made, int many) {
        if (forgets(made.nodes, 0) || forgets(made.nodes, 1)) {
            due("rounds", x.rounds(1), STATE);
            return;
        }
        List<int[][]> ahead = new ArrayList<>();
        for (int k = 0; k < many; k++) {
            int[][] acts = firstActs();
            for (int player = 0; player < 2 && k > 0; player++) {
                Answer answer = new Answer(made.nodes, player, -1, ahead);
                boolean[] done = new boolean[10];
                for (MadePlace n : made.nodes) {
                    if (n.player == player && !done[n.set]) {
                        done[n.set] = true;
                        acts[n.set] = new int[3];
                        acts[n.set][answer.bestAct(n)] = 12;
                    }
                }
            }
            ahead.add(acts);
        }
        due("rounds", x.rounds(many - 1), many - 1);
        due("rounds", x.rounds(1), many);
        MadePlace top = made.nodes.get(0);
        due("LOWER", x.bound(0), new Answer(made.nodes, 1, -1, ahead).worth(top));
        due("UPPER", x.bound(1), new Answer(made.nodes, 0, -1, ahead).worth(top));
        for (int s = 0; s < 10; s++) {
            for (int act = 0; act < made.acts[s]; act++) {
                int times = 0;
                for (int[][] acts : ahead) {
                    times += acts[s][act] / 12;
                }
                due("mean", x.mean(s, act), times);
            }
        }
        int k = made.random.nextInt(many);
        due("take", x.take(k), 1);
        for (int s = 0; s < 10; s++) {
            for (int act = 0; act < made.acts[s]; act++) {
                due("share of a ROUND", x.share(s, act), ahead.get(k)[s][act]);
            }
        }
    }

    private static void checkAsks(HalfGames x, MadeGame made) {
        int[] places = new int[10];
        for (MadePlace n : made.nodes) {
            if (n.set >= 0) {
                places[n.set]++;
            }
        }
        for (MadePlace n : made.nodes) {
            long mark = n.number + (n.set >= 0 ? 100 * n.set : n.what.equals("end") && n.pay >= 50 ? 2 * n.pay : 0);
            long size = n.size();
            if (n.what.equals("end")) {
                size = n.pay >= 50 ? 2 * n.pay : n.pay;
            } else if (n.set < 0) {
                size += n.below.size();
            } else {
                size = (size + mark) * places[n.set];
            }
            due("SIZE", x.ask(n.number, 0), size);
            due("MARK", x.ask(n.number, 1), mark);
        }
    }

    private static HalfGames read(MadeGame made) {
        HalfGames x = new HalfGames();
        due("game", read(x, text), made.nodes.size());
        return x;
    }

    public static void main(String[] args) {
        int games = 0;
        int mindful = 0;
        int largest = 0;
        for (long seed = 1; seed <= 3000; seed++) {
            MadeGame made = new MadeGame(seed, 60);
            text = made.out.toString();
            if (text.length() > 600) {
                continue;
            }
            about(text);
            games++;
            mindful += forgets(made.nodes, 0) || forgets(made.nodes, 1) ? 0 : 1;
            largest = Math.max(largest, made.nodes.size());
            HalfGames x = read(made);
            int[][] plan = mixPlan(x, made);
            checkPlaces(x, made, plan);
            checkAnswers(x, made, plan, 0);
            checkAnswers(x, made, plan, 1);
            HalfGames y = read(made);
            checkRounds(y, made, 2 + (int) (seed % 11));
            checkAsks(y, made);
        }
        System.out.println(games + " games, " + mindful + " in which none forgets, the largest of " + largest
                + " PLACES");
        if (games < 1000 || mindful < games / 2 || mindful == games || largest < 50) {
            fail("these are not the games that were meant");
        }
        finish();
    }
}
