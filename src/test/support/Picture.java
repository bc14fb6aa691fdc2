import java.util.ArrayList;
import java.util.List;

/**
 * All that later calls can tell of an object with some past. Many of these calls change it, so that each part is asked
 * of an object of its own with the same past; none is used for more than the 512 calls that the document tells.
 */
final class Picture {
    interface Past {
        void on(HalfGames x);
    }

    private final Past past;
    private final List<Long> told = new ArrayList<>();
    private final List<String> calls = new ArrayList<>();

    private Picture(Past past) {
        this.past = past;
    }

    static Picture of(Past past) {
        Picture made = new Picture(past);
        made.quiet();
        made.places();
        made.reaches();
        made.sets();
        for (int k = 0; k < 60; k += 10) {
            made.roundsFrom(k);
        }
        made.nextRounds();
        made.tape();
        for (int row = 0; row < 8; row++) {
            made.row(row);
        }
        return made;
    }

    /** What differs between two objects, by the first call that tells it; null: nothing but what is left out. */
    static String difference(Picture a, Picture b, String... leftOut) {
        List<String> out = List.of(leftOut);
        if (!a.calls.equals(b.calls)) {
            return "which ROWS there are";
        }
        for (int k = 0; k < a.told.size(); k++) {
            if (!a.told.get(k).equals(b.told.get(k)) && !out.contains(a.calls.get(k).split(" ")[0])) {
                return a.calls.get(k) + ": " + a.told.get(k) + ", then " + b.told.get(k);
            }
        }
        return null;
    }

    private HalfGames make() {
        HalfGames x = new HalfGames();
        past.on(x);
        return x;
    }

    private void tell(String call, long answer) {
        calls.add(call);
        told.add(answer);
    }

    private void quiet() {
        HalfGames x = make();
        tell("status", x.status());
        tell("fault", x.fault());
        for (int what = 0; what < 7; what++) {
            tell(what == 6 ? "tape bytes" : "count " + what, x.count(what));
        }
        for (int i = 0; i < 17; i++) {
            tell("trace " + i, x.trace(i));
        }
        tell("value", x.value());
        for (int player = 0; player < 2; player++) {
            tell("forgets " + player, x.forgets(player));
            for (int what = 0; what < 3; what++) {
                tell("best " + player + " " + what, x.best(player, what));
            }
        }
        for (int what = 0; what < 3; what++) {
            tell("bound " + what, x.bound(what));
        }
    }

    private void places() {
        HalfGames x = make();
        for (int place = 0; place < 60; place++) {
            for (int what = 0; what < 6; what++) {
                tell("place " + place + " " + what, x.place(place, what));
            }
        }
    }

    private void reaches() {
        HalfGames x = make();
        for (int place = 0; place < 60; place++) {
            for (int what = 0; what < 3; what++) {
                tell("reach " + place + " " + what, x.reach(place, what));
            }
            tell("belief " + place, x.belief(place, 1));
            tell("kind " + place, x.kind(place));
        }
    }

    private void sets() {
        HalfGames x = make();
        for (int set = 0; set < 10; set++) {
            tell("answer " + set, x.answer(set));
            tell("seeing " + set, x.seeing(set));
            for (int k = 0; k < 3; k++) {
                tell("seen " + set + " " + k, x.seen(set, k));
                tell("share " + set + " " + k, x.share(set, k));
                tell("fewer " + set + " " + k, x.fewer(set, k));
                tell("mean " + set + " " + k, x.mean(set, k));
            }
        }
    }

    private void roundsFrom(int first) {
        HalfGames x = make();
        for (int k = first; k < first + 10; k++) {
            long taken = x.take(k);
            tell("take " + k, taken);
            for (int set = 0; set < 10; set++) {
                // Behind a take() that is refused they would tell the PLAN, that is told elsewhere.
                tell("act 0 of ROUND " + k, taken == 1 ? x.share(set, 0) : HalfGames.NONE);
                tell("act 1 of ROUND " + k, taken == 1 ? x.share(set, 1) : HalfGames.NONE);
            }
        }
    }

    private void nextRounds() {
        HalfGames x = make();
        for (int k = 0; k < 5; k++) {
            tell("rounds 1", x.rounds(1));
            tell("bound 0 then", x.bound(0));
            tell("bound 1 then", x.bound(1));
            for (int set = 0; set < 10; set++) {
                tell("mean then " + set, x.mean(set, 0));
            }
        }
    }

    private void tape() {
        HalfGames x = make();
        tell("tape", x.game());
        tell("tape fault", x.fault());
        for (int place = 0; place < 10; place++) {
            tell("tape place " + place, x.place(place, 0));
            tell("tape PAY " + place, x.place(place, 1));
        }
    }

    private void row(int row) {
        int other = (row + 1) % 8;
        HalfGames x = make();
        int lane = 0;
        for (int k = 0; k < 3; k++) {
            x.row(other, k, 0);
            long copied = x.copy(row, 0, other, 0, 0);
            tell("lane of ROW " + row, copied);
            lane = copied == 0 ? k : lane;
        }
        long length = x.drop(row);
        tell("length of ROW " + row, length);
        for (int i = 0; i < length; i += 10) {
            items(row, lane, i, (int) Math.min(length, i + 10));
        }
    }

    /** An ITEM that is 0 to 12 is known by what makes it 12; all others are alike to every call. */
    private void items(int row, int lane, int from, int to) {
        HalfGames x = make();
        x.game();
        Checks.read(x, "one 0 2 end 0 end 0;");
        int other = (row + 1) % 8;
        x.row(other, lane, 2);
        for (int i = from; i < to; i++) {
            x.copy(row, i, other, 0, 1);
            long found = HalfGames.NONE;
            for (int v = 0; v <= 12; v++) {
                x.set(other, 1, 12 - v);
                found = x.mix(0, other, 0) == 1 ? v : found;
            }
            tell("ITEM " + i + " of ROW " + row, found);
        }
    }
}
