import java.util.List;

/** KINDS as classes, BODIES as methods of them: which one begins, the machine itself finds. */
final class PlainKinds {
    static final List<Class<? extends Place>> KINDS =
            List.of(Place.class, Deal.class, Held.class, Seen.class, End.class, Dear.class);

    private PlainKinds() {
    }

    static Place of(PlainPlace it, List<Integer> trace) {
        if (it.isEnd()) {
            return it.pay >= 50 ? new Dear(it, trace) : new End(it, trace);
        }
        if (it.word.equals("deal")) {
            return new Deal(it, trace);
        }
        return it.ofItsSet.size() > 1 ? new Seen(it, trace) : new Held(it, trace);
    }

    static int numberOf(Place place) {
        return KINDS.indexOf(place.getClass());
    }

    /** What is lent to all PLACES. */
    interface Lent {
        PlainPlace it();

        void begins(int body);

        default long size() {
            begins(10);
            return it().howManyBelow();
        }

        default long mark() {
            begins(20);
            return it().number;
        }
    }

    static class Place implements Lent {
        private final PlainPlace it;
        private final List<Integer> trace;

        Place(PlainPlace it, List<Integer> trace) {
            this.it = it;
            this.trace = trace;
        }

        @Override
        public PlainPlace it() {
            return it;
        }

        @Override
        public void begins(int body) {
            trace.add(body);
        }
    }

    static final class Deal extends Place {
        Deal(PlainPlace it, List<Integer> trace) {
            super(it, trace);
        }

        @Override
        public long size() {
            begins(11);
            return super.size() + it().below.size();
        }
    }

    static class Held extends Place {
        Held(PlainPlace it, List<Integer> trace) {
            super(it, trace);
        }

        @Override
        public long size() {
            begins(12);
            return super.size() + mark();
        }

        @Override
        public long mark() {
            begins(21);
            return super.mark() + 100 * it().set;
        }
    }

    static final class Seen extends Held {
        Seen(PlainPlace it, List<Integer> trace) {
            super(it, trace);
        }

        @Override
        public long size() {
            begins(13);
            return super.size() * it().ofItsSet.size();
        }
    }

    static class End extends Place {
        End(PlainPlace it, List<Integer> trace) {
            super(it, trace);
        }

        @Override
        public long size() {
            begins(14);
            return it().pay;
        }
    }

    static final class Dear extends End {
        Dear(PlainPlace it, List<Integer> trace) {
            super(it, trace);
        }

        @Override
        public long size() {
            begins(15);
            return super.size() * 2;
        }

        @Override
        public long mark() {
            begins(22);
            return super.mark() + size();
        }
    }
}
