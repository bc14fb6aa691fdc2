import java.util.ArrayList;
import java.util.Collections;
import java.util.HashMap;
import java.util.List;
import java.util.Map;
import java.util.Random;

/**
 * Games made by a fixed seed, worked out a second time in the plainest way: trees of objects, pure plans tried
 * one by one, the document's own sentences as recursion.
 */
public final class PlainTest extends Checks {
    private static String text = "";

    private static final class Node {
        int number;
        String what;
        int pay;
        int set = -1;
        int player = -1;
        Node above;
        int turn;
        int shareIn;
        final List<Node> below = new ArrayList<>();

        int depth() {
            return above == null ? 0 : above.depth() + 1;
        }

        List<String> past(int whose) {
            List<String> list = above == null ? new ArrayList<>() : above.past(whose);
            if (above != null && above.player == whose) {
                list.add(above.set + ":" + turn);
            }
            return list;
        }

        int size() {
            int all = 1;
            for (Node n : below) {
                all += n.size();
            }
            return all;
        }
    }

    private static final class Maker {
        final Random random;
        final boolean mindful;
        final List<Node> nodes = new ArrayList<>();
        final int[] player = new int[10];
        final int[] acts = new int[10];
        final List<List<String>> past = new ArrayList<>();
        final StringBuilder out = new StringBuilder();
        int left;

        Maker(long seed) {
            random = new Random(seed);
            mindful = random.nextInt(6) != 0;
            left = 2 + random.nextInt(57);
            for (int s = 0; s < 10; s++) {
                player[s] = -1;
                past.add(null);
            }
            make(null, 0, 0);
            out.append(';');
        }

        void make(Node above, int turn, int shareIn) {
            Node n = new Node();
            n.above = above;
            n.turn = turn;
            n.shareIn = shareIn;
            n.number = nodes.size();
            nodes.add(n);
            if (above != null) {
                above.below.add(n);
            }
            int ways = 2 + random.nextInt(3);
            int dice = random.nextInt(10);
            boolean stop = n.depth() >= 8 || left < ways || n.depth() > 1 && random.nextInt(4) == 0;
            int set = dice >= 3 ? findSet(n, dice % 2) : -1;
            if (stop || dice >= 3 && (set < 0 || left < Math.max(acts[set], 3))) {
                n.what = "end";
                n.pay = random.nextInt(100);
                out.append("end ").append(n.pay).append(' ');
            } else if (dice < 3) {
                makeDeal(n, ways);
            } else {
                makeHeld(n, set, dice % 2);
            }
        }

        void makeDeal(Node n, int ways) {
            n.what = "deal";
            left -= ways;
            out.append("deal ").append(ways).append(' ');
            int rest = 12;
            for (int w = 0; w < ways; w++) {
                int share = w == ways - 1 ? rest : 1 + random.nextInt(rest - (ways - 1 - w));
                rest -= share;
                out.append(share).append(' ');
                make(n, w, share);
            }
        }

        void makeHeld(Node n, int set, int whose) {
            n.what = whose == 0 ? "one" : "two";
            n.player = whose;
            n.set = set;
            if (player[set] < 0) {
                player[set] = whose;
                acts[set] = 2 + random.nextInt(2);
                past.set(set, n.past(whose));
            }
            left -= acts[set];
            out.append(n.what).append(' ').append(set).append(' ').append(acts[set]).append('\n');
            for (int a = 0; a < acts[set]; a++) {
                make(n, a, 0);
            }
        }

        int findSet(Node n, int whose) {
            for (int tries = 0; tries < 25; tries++) {
                int s = random.nextInt(10);
                boolean like = player[s] == whose && (!mindful || past.get(s).equals(n.past(whose)));
                if (player[s] < 0 && tries > 8 || like) {
                    return s;
                }
            }
            return -1;
        }
    }

    /** Which PLACES are of one SET: told by a key, so that SEEING can tell them otherwise. */
    private static Map<Node, String> keys(List<Node> nodes, int player, int apart) {
        Map<Node, String> keys = new HashMap<>();
        for (Node n : nodes) {
            if (n.player == player) {
                String by = "none";
                for (Node m = n; m != null; m = m.above) {
                    if (m.set >= 0 && m.set == apart) {
                        by = "by " + m.number;
                    }
                }
                keys.put(n, n.set + " " + by);
            }
        }
        return keys;
    }

    private static long ownReach(Node n, int leftOut, int[][] shares) {
        long reach = WHOLE;
        for (Node m = n; m.above != null; m = m.above) {
            Node a = m.above;
            int part = a.player < 0 ? m.shareIn : a.player == leftOut ? 12 : shares[a.set][m.turn];
            reach = reach / 12;
            reach *= part;
        }
        return reach;
    }

    /** The same product, but in the document's order of words. */
    private static long reachByPower(Node n, int[][] shares) {
        long reach = 1;
        int ways = 0;
        for (Node m = n; m.above != null; m = m.above) {
            reach *= m.above.player < 0 ? m.shareIn : shares[m.above.set][m.turn];
            ways++;
        }
        for (int k = ways; k < 8; k++) {
            reach *= 12;
        }
        return reach;
    }

    /** The BEST ANSWER, sentence by sentence, with nothing kept. */
    private static final class Answer {
        final List<Node> nodes;
        final int player;
        final Map<Node, String> keys;
        final long[] own;
        int barredSet = -1;
        int barredAct = -1;

        Answer(List<Node> nodes, int player, int apart, List<int[][]> against) {
            this.nodes = nodes;
            this.player = player;
            keys = keys(nodes, player, apart);
            own = new long[nodes.size()];
            for (Node n : nodes) {
                if (n.what.equals("end")) {
                    for (int[][] shares : against) {
                        own[n.number] += ownReach(n, player, shares);
                    }
                }
            }
        }

        long worth(Node n) {
            if (n.what.equals("end")) {
                return n.pay * own[n.number];
            }
            if (n.player == player) {
                return worth(n.below.get(bestAct(n)));
            }
            long all = 0;
            for (Node m : n.below) {
                all += worth(m);
            }
            return all;
        }

        int bestAct(Node n) {
            int best = -1;
            long most = 0;
            for (int act = 0; act < n.below.size(); act++) {
                if (n.set == barredSet && act == barredAct) {
                    continue;
                }
                long all = 0;
                for (Node m : nodes) {
                    if (m.player == player && keys.get(m).equals(keys.get(n))) {
                        all += worth(m.below.get(act));
                    }
                }
                if (best < 0 || (player == 0 ? all > most : all < most)) {
                    best = act;
                    most = all;
                }
            }
            return best;
        }
    }

    /** The most that any pure plan makes, by trying them all; null where they are too many. */
    private static Long tryAll(List<Node> nodes, int player, int apart, int[][] plan, int barredSet, int barredAct) {
        Map<Node, String> keys = keys(nodes, player, apart);
        List<String> names = new ArrayList<>();
        List<Integer> sizes = new ArrayList<>();
        List<Integer> sets = new ArrayList<>();
        long many = 1;
        for (Node n : nodes) {
            if (n.player == player && !names.contains(keys.get(n))) {
                names.add(keys.get(n));
                sizes.add(n.below.size());
                sets.add(n.set);
                many *= n.below.size();
            }
            if (many > 1500) {
                return null;
            }
        }
        Long most = null;
        for (long code = 0; code < many; code++) {
            Map<String, Integer> acts = new HashMap<>();
            long rest = code;
            boolean barred = false;
            for (int k = 0; k < names.size(); k++) {
                int act = (int) (rest % sizes.get(k));
                rest /= sizes.get(k);
                acts.put(names.get(k), act);
                barred |= sets.get(k) == barredSet && act == barredAct;
            }
            if (!barred) {
                long made = play(nodes.get(0), player, keys, acts, plan, WHOLE);
                most = most == null || (player == 0 ? made > most : made < most) ? Long.valueOf(made) : most;
            }
        }
        return most;
    }

    private static long play(Node n, int player, Map<Node, String> keys, Map<String, Integer> acts, int[][] plan,
            long reach) {
        if (n.what.equals("end")) {
            return n.pay * reach;
        }
        if (n.player == player) {
            return play(n.below.get(acts.get(keys.get(n))), player, keys, acts, plan, reach);
        }
        long all = 0;
        for (Node m : n.below) {
            all += play(m, player, keys, acts, plan, reach / 12 * (n.player < 0 ? m.shareIn : plan[n.set][m.turn]));
        }
        return all;
    }

    private static boolean forgets(List<Node> nodes, int player) {
        for (Node a : nodes) {
            for (Node b : nodes) {
                if (a.player == player && b.player == player && a.set == b.set
                        && !a.past(player).equals(b.past(player))) {
                    return true;
                }
            }
        }
        return false;
    }

    private static int[][] firstActs() {
        int[][] plan = new int[10][3];
        for (int s = 0; s < 10; s++) {
            plan[s][0] = 12;
        }
        return plan;
    }

    private static int[][] mixPlan(HalfGames x, Maker made) {
        int[][] plan = firstActs();
        for (int s = 0; s < 10; s++) {
            if (made.player[s] >= 0) {
                int a = made.random.nextInt(13);
                int b = made.acts[s] == 3 ? made.random.nextInt(13 - a) : 12 - a;
                plan[s] = new int[] {a, b, 12 - a - b};
                x.row(3, s % 3, made.acts[s] + 2);
                for (int k = 0; k < made.acts[s]; k++) {
                    x.set(3, k + 2, plan[s][k]);
                }
                due("mix of " + s, x.mix(s, 3, 2), 1);
            }
        }
        return plan;
    }

    private static void checkPlaces(HalfGames x, Maker made, int[][] plan) {
        long value = 0;
        long[] belief = new long[10];
        for (Node n : made.nodes) {
            due("reach", x.reach(n.number, 0), reachByPower(n, plan));
            due("own reach of one", x.reach(n.number, 1), ownReach(n, 0, plan));
            due("own reach of two", x.reach(n.number, 2), ownReach(n, 1, plan));
            due("WAYS", x.place(n.number, 5), n.depth());
            due("above", x.place(n.number, 4), n.above == null ? HalfGames.NONE : n.above.number);
            value += n.what.equals("end") ? n.pay * reachByPower(n, plan) : 0;
            if (n.set >= 0) {
                belief[n.set] += reachByPower(n, plan);
            }
        }
        due("value", x.value(), value);
        for (Node n : made.nodes) {
            if (n.set >= 0) {
                due("belief", x.belief(n.number, 1), belief[n.set]);
            }
        }
    }

    private static void checkAnswers(HalfGames x, Maker made, int[][] plan, int player) {
        boolean forgets = forgets(made.nodes, player);
        due("forgets(" + player + ")", x.forgets(player), forgets ? 1 : 0);
        List<int[][]> against = Collections.singletonList(plan);
        long value = x.value();
        long best = forgets ? STATE : new Answer(made.nodes, player, -1, against).worth(made.nodes.get(0));
        long gain = forgets ? STATE : player == 0 ? best - value : value - best;
        due("best(" + player + ", 0)", x.best(player, 0), best);
        due("best(" + player + ", 1)", x.best(player, 1), gain);
        due("best(" + (1 - player) + ", 2)", x.best(1 - player, 2), gain);
        Long tried = forgets ? null : tryAll(made.nodes, player, -1, plan, -1, -1);
        if (tried != null) {
            due("all plans of " + player, best, tried);
        }
        boolean[] done = new boolean[10];
        for (Node n : made.nodes) {
            if (n.player == player && !done[n.set]) {
                done[n.set] = true;
                checkSet(x, made, plan, n, forgets, best);
            }
        }
    }

    private static void checkSet(HalfGames x, Maker made, int[][] plan, Node n, boolean forgets, long best) {
        if (forgets) {
            due("answer", x.answer(n.set), STATE);
            due("seeing", x.seeing(n.set), STATE);
            due("fewer", x.fewer(n.set, 0), STATE);
            return;
        }
        List<int[][]> against = Collections.singletonList(plan);
        due("answer", x.answer(n.set), new Answer(made.nodes, n.player, -1, against).bestAct(n));
        long apart = new Answer(made.nodes, n.player, n.set, against).worth(made.nodes.get(0));
        due("seeing", x.seeing(n.set), n.player == 0 ? apart - best : best - apart);
        Long tried = tryAll(made.nodes, n.player, n.set, plan, -1, -1);
        if (tried != null) {
            due("all plans that see", apart, tried);
        }
        for (int act = 0; act < n.below.size(); act++) {
            Answer barred = new Answer(made.nodes, n.player, -1, against);
            barred.barredSet = n.set;
            barred.barredAct = act;
            due("fewer", x.fewer(n.set, act), barred.worth(made.nodes.get(0)));
            Long most = tryAll(made.nodes, n.player, -1, plan, n.set, act);
            if (most != null) {
                due("all plans that are left", x.fewer(n.set, act), most);
            }
        }
    }

    private static void checkRounds(HalfGames x, Maker made, int many) {
        if (forgets(made.nodes, 0) || forgets(made.nodes, 1)) {
            due("rounds", x.rounds(1), STATE);
            return;
        }
        List<int[][]> ahead = new ArrayList<>();
        for (int k = 0; k < many; k++) {
            int[][] acts = firstActs();
            for (int player = 0; player < 2 && k > 0; player++) {
                Answer answer = new Answer(made.nodes, player, -1, ahead);
                boolean[] done = new boolean[10];
                for (Node n : made.nodes) {
                    if (n.player == player && !done[n.set]) {
                        done[n.set] = true;
                        acts[n.set] = new int[3];
                        acts[n.set][answer.bestAct(n)] = 12;
                    }
                }
            }
            ahead.add(acts);
        }
        due("rounds", x.rounds(many - 1), many - 1);
        due("rounds", x.rounds(1), many);
        Node top = made.nodes.get(0);
        due("LOWER", x.bound(0), new Answer(made.nodes, 1, -1, ahead).worth(top));
        due("UPPER", x.bound(1), new Answer(made.nodes, 0, -1, ahead).worth(top));
        for (int s = 0; s < 10; s++) {
            for (int act = 0; act < made.acts[s]; act++) {
                int times = 0;
                for (int[][] acts : ahead) {
                    times += acts[s][act] / 12;
                }
                due("mean", x.mean(s, act), times);
            }
        }
        int k = made.random.nextInt(many);
        due("take", x.take(k), 1);
        for (int s = 0; s < 10; s++) {
            for (int act = 0; act < made.acts[s]; act++) {
                due("share of a ROUND", x.share(s, act), ahead.get(k)[s][act]);
            }
        }
    }

    private static void checkAsks(HalfGames x, Maker made) {
        int[] places = new int[10];
        for (Node n : made.nodes) {
            if (n.set >= 0) {
                places[n.set]++;
            }
        }
        for (Node n : made.nodes) {
            long mark = n.number + (n.set >= 0 ? 100 * n.set : n.what.equals("end") && n.pay >= 50 ? 2 * n.pay : 0);
            long size = n.size();
            if (n.what.equals("end")) {
                size = n.pay >= 50 ? 2 * n.pay : n.pay;
            } else if (n.set < 0) {
                size += n.below.size();
            } else {
                size = (size + mark) * places[n.set];
            }
            due("SIZE", x.ask(n.number, 0), size);
            due("MARK", x.ask(n.number, 1), mark);
        }
    }

    private static HalfGames read(Maker made) {
        HalfGames x = new HalfGames();
        due("game", read(x, text), made.nodes.size());
        return x;
    }

    public static void main(String[] args) {
        int games = 0;
        int mindful = 0;
        int largest = 0;
        for (long seed = 1; seed <= 3000; seed++) {
            Maker made = new Maker(seed);
            text = made.out.toString();
            if (text.length() > 600) {
                continue;
            }
            about(text);
            games++;
            mindful += forgets(made.nodes, 0) || forgets(made.nodes, 1) ? 0 : 1;
            largest = Math.max(largest, made.nodes.size());
            HalfGames x = read(made);
            int[][] plan = mixPlan(x, made);
            checkPlaces(x, made, plan);
            checkAnswers(x, made, plan, 0);
            checkAnswers(x, made, plan, 1);
            HalfGames y = read(made);
            checkRounds(y, made, 2 + (int) (seed % 11));
            checkAsks(y, made);
        }
        System.out.println(games + " games, " + mindful + " in which none forgets, the largest of " + largest
                + " PLACES");
        if (games < 1000 || mindful < games / 2 || mindful == games || largest < 50) {
            fail("these are not the games that were meant");
        }
        finish();
    }
}
