import java.util.ArrayList;
import java.util.List;
import java.util.regex.Matcher;
import java.util.regex.Pattern;

/** A text, cut into TOKENS first and then read by the document's rules for it. */
final class PlainText {
    /** A FAULT: its number, and the first byte of its TOKEN. */
    static final class Fault extends Exception {
        private static final long serialVersionUID = 1L;
        final int number;
        final int at;

        Fault(int number, int at) {
            this.number = number;
            this.at = at;
        }
    }

    final List<PlainPlace> places = new ArrayList<>();
    private final List<String> tokens = new ArrayList<>();
    private final List<Integer> starts = new ArrayList<>();
    private int next = 0;

    PlainText(String told) throws Fault {
        Matcher token = Pattern.compile("[a-z]+|[0-9]+|[^ \n]").matcher(told);
        while (token.find()) {
            tokens.add(token.group());
            starts.add(token.start());
        }
        tokens.add("");
        starts.add(told.length());
        readPlace(null, 12);
        faultUnless(tokens.get(next).equals(";"), 1);
        next++;
        faultUnless(tokens.get(next).isEmpty(), 1);
        for (PlainPlace it : places) {
            it.ofItsSet = it.set == HalfGames.NONE ? List.of() : placesOf(it.set);
        }
    }

    List<PlainPlace> placesOf(int set) {
        return places.stream().filter(it -> it.set != HalfGames.NONE && it.set == set).toList();
    }

    private void faultUnless(boolean isAsTold, int number) throws Fault {
        if (!isAsTold) {
            throw new Fault(number, starts.get(next));
        }
    }

    /** Whether the NUMBER that stands next is as told is asked before it is passed. */
    private int numberHere() throws Fault {
        faultUnless(tokens.get(next).matches("[0-9]{1,2}"), 1);
        return Integer.parseInt(tokens.get(next));
    }

    private void readPlace(PlainPlace above, int share) throws Fault {
        String word = tokens.get(next);
        faultUnless(List.of("end", "deal", "one", "two").contains(word), 1);
        faultUnless(places.size() < 60, 3);
        PlainPlace it = new PlainPlace(places.size(), word, above);
        faultUnless(it.waysTo() < 8 || it.isEnd(), 3);
        it.shareOfWay = share;
        places.add(it);
        if (above != null) {
            above.below.add(it);
        }
        next++;
        if (it.isEnd()) {
            it.pay = numberHere();
            next++;
        } else if (word.equals("deal")) {
            readWays(it);
        } else {
            readActs(it);
        }
    }

    private void readWays(PlainPlace it) throws Fault {
        int ways = numberHere();
        faultUnless(ways >= 2 && ways <= 4, 2);
        next++;
        int together = 0;
        for (int k = 1; k <= ways; k++) {
            int share = numberHere();
            together += share;
            faultUnless(share >= 1 && share <= 11, 2);
            faultUnless(together <= 12, 2);
            faultUnless(k < ways || together == 12, 2);
            next++;
            readPlace(it, share);
        }
    }

    private void readActs(PlainPlace it) throws Fault {
        int set = numberHere();
        faultUnless(set <= 9, 2);
        faultUnless(placesOf(set).stream().allMatch(other -> other.word.equals(it.word)), 2);
        next++;
        int acts = numberHere();
        faultUnless(acts == 2 || acts == 3, 2);
        faultUnless(placesOf(set).stream().allMatch(other -> other.toldActs == acts), 2);
        next++;
        it.set = set;
        it.toldActs = acts;
        for (int k = 0; k < acts; k++) {
            readPlace(it, 12);
        }
    }
}
