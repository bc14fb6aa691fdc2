import java.util.ArrayList;
import java.util.List;

/** A PLACE as the document tells it, with all that is worked out of the way to it. */
final class PlainPlace {
    final int number;
    final String word;
    final PlainPlace above;
    final int way;
    int shareOfWay = 12;
    int pay = HalfGames.NONE;
    int set = HalfGames.NONE;
    int toldActs = 0;
    /** All PLACES of its SET, this one too; of one without a SET none. */
    List<PlainPlace> ofItsSet = List.of();
    final List<PlainPlace> below = new ArrayList<>();

    PlainPlace(int number, String word, PlainPlace above) {
        this.number = number;
        this.word = word;
        this.above = above;
        way = above == null ? 0 : above.below.size();
    }

    boolean isEnd() {
        return word.equals("end");
    }

    int player() {
        return word.equals("one") ? 0 : word.equals("two") ? 1 : HalfGames.NONE;
    }

    int waysTo() {
        return above == null ? 0 : above.waysTo() + 1;
    }

    int howManyBelow() {
        int all = 1;
        for (PlainPlace each : below) {
            all += each.howManyBelow();
        }
        return all;
    }

    /** The row of SETS of its player and acts there by which one comes to it. */
    String past() {
        String past = "";
        for (PlainPlace it = this; it.above != null; it = it.above) {
            if (it.above.player() == player()) {
                past = "SET " + it.above.set + " act " + it.way + ", " + past;
            }
        }
        return past;
    }

    /** 12 to the power (8 less its WAYS) times all shares on the way; those of a player who is left out are as 12. */
    long reach(int[][] plan, int leftOut) {
        long product = 1;
        for (int k = waysTo(); k < 8; k++) {
            product *= 12;
        }
        for (PlainPlace it = this; it.above != null; it = it.above) {
            int player = it.above.player();
            product *= player == HalfGames.NONE ? it.shareOfWay : player == leftOut ? 12 : plan[it.above.set][it.way];
        }
        return product;
    }

    /** The PLACE of a SET by which one comes to this one, or that it is; null: none. */
    PlainPlace throughSet(int which) {
        for (PlainPlace it = this; it != null; it = it.above) {
            if (it.set == which) {
                return it;
            }
        }
        return null;
    }
}
