import java.util.HashMap;
import java.util.List;
import java.util.Map;

/** A BEST ANSWER against one PLAN or all ROUNDS, by the document's sentences; worths are kept, nothing else. */
final class PlainAnswer {
    /** A SET whose PLACES are known apart; NONE: there is no such one. */
    int apart = HalfGames.NONE;
    int barredSet = HalfGames.NONE;
    int barredAct = HalfGames.NONE;
    private final List<PlainPlace> places;
    private final int player;
    private final List<int[][]> against;
    private final Map<PlainPlace, Long> worths = new HashMap<>();

    PlainAnswer(List<PlainPlace> places, int player, List<int[][]> against) {
        this.places = places;
        this.player = player;
        this.against = against;
    }

    long value() {
        return worth(places.get(0));
    }

    private long worth(PlainPlace it) {
        if (!worths.containsKey(it)) {
            worths.put(it, workOut(it));
        }
        return worths.get(it);
    }

    private long workOut(PlainPlace it) {
        if (it.isEnd()) {
            return it.pay * against.stream().mapToLong(plan -> it.reach(plan, player)).sum();
        }
        if (it.player() == player) {
            return worth(it.below.get(actAt(it)));
        }
        return it.below.stream().mapToLong(this::worth).sum();
    }

    private boolean areOfOneSet(PlainPlace a, PlainPlace b) {
        return a.set == b.set
                && (apart == HalfGames.NONE || a.throughSet(apart) == b.throughSet(apart));
    }

    private long worthBy(PlainPlace it, int act) {
        return it.ofItsSet.stream().filter(other -> areOfOneSet(it, other))
                .mapToLong(other -> worth(other.below.get(act))).sum();
    }

    int actAt(PlainPlace it) {
        int best = HalfGames.NONE;
        for (int act = it.below.size() - 1; act >= 0; act--) {
            if (it.set != barredSet || act != barredAct) {
                long less = best == HalfGames.NONE ? 0 : worthBy(it, best) - worthBy(it, act);
                if (player == 0 ? less <= 0 : less >= 0) {
                    best = act;
                }
            }
        }
        return best;
    }
}
