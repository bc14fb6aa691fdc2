import java.util.ArrayList;
import java.util.List;
import java.util.Random;

/** A game made by a seed, as a tree and as its text; in most of them nobody forgets. */
final class MadeGame {
    final Random random;
    final boolean mindful;
    final List<MadePlace> nodes = new ArrayList<>();
    final int[] player = new int[10];
    final int[] acts = new int[10];
    final List<List<String>> past = new ArrayList<>();
    final StringBuilder out = new StringBuilder();
    int left;

    /** Of at most so many PLACES, 4 at least. */
    MadeGame(long seed, int most) {
        random = new Random(seed);
        mindful = random.nextInt(6) != 0;
        left = 2 + random.nextInt(most - 2);
        for (int s = 0; s < 10; s++) {
            player[s] = -1;
            past.add(null);
        }
        make(null, 0, 0);
        out.append(';');
    }

    void make(MadePlace above, int turn, int shareIn) {
        MadePlace n = new MadePlace();
        n.above = above;
        n.turn = turn;
        n.shareIn = shareIn;
        n.number = nodes.size();
        nodes.add(n);
        if (above != null) {
            above.below.add(n);
        }
        int ways = 2 + random.nextInt(3);
        int dice = random.nextInt(10);
        boolean stop = n.depth() >= 8 || left < ways || n.depth() > 1 && random.nextInt(4) == 0;
        int set = dice >= 3 ? findSet(n, dice % 2) : -1;
        if (stop || dice >= 3 && (set < 0 || left < Math.max(acts[set], 3))) {
            n.what = "end";
            n.pay = random.nextInt(100);
            out.append("end ").append(n.pay).append(' ');
        } else if (dice < 3) {
            makeDeal(n, ways);
        } else {
            makeHeld(n, set, dice % 2);
        }
    }

    void makeDeal(MadePlace n, int ways) {
        n.what = "deal";
        left -= ways;
        out.append("deal ").append(ways).append(' ');
        int rest = 12;
        for (int w = 0; w < ways; w++) {
            int share = w == ways - 1 ? rest : 1 + random.nextInt(rest - (ways - 1 - w));
            rest -= share;
            out.append(share).append(' ');
            make(n, w, share);
        }
    }

    void makeHeld(MadePlace n, int set, int whose) {
        n.what = whose == 0 ? "one" : "two";
        n.player = whose;
        n.set = set;
        if (player[set] < 0) {
            player[set] = whose;
            acts[set] = 2 + random.nextInt(2);
            past.set(set, n.past(whose));
        }
        left -= acts[set];
        out.append(n.what).append(' ').append(set).append(' ').append(acts[set]).append('\n');
        for (int a = 0; a < acts[set]; a++) {
            make(n, a, 0);
        }
    }

    int findSet(MadePlace n, int whose) {
        for (int tries = 0; tries < 25; tries++) {
            int s = random.nextInt(10);
            boolean like = player[s] == whose && (!mindful || past.get(s).equals(n.past(whose)));
            if (player[s] < 0 && tries > 8 || like) {
                return s;
            }
        }
        return -1;
    }
}
