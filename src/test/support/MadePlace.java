import java.util.ArrayList;
import java.util.List;

/** A PLACE of a game that a test has made. */
final class MadePlace {
    int number;
    String what;
    int pay;
    int set = -1;
    int player = -1;
    MadePlace above;
    int turn;
    int shareIn;
    final List<MadePlace> below = new ArrayList<>();

    int depth() {
        return above == null ? 0 : above.depth() + 1;
    }

    List<String> past(int whose) {
        List<String> list = above == null ? new ArrayList<>() : above.past(whose);
        if (above != null && above.player == whose) {
            list.add(above.set + ":" + turn);
        }
        return list;
    }

    int size() {
        int all = 1;
        for (MadePlace n : below) {
            all += n.size();
        }
        return all;
    }
}
