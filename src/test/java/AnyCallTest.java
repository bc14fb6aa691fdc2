import java.lang.management.ManagementFactory;
import java.nio.charset.StandardCharsets;
import java.util.Random;

/**
 * Any numbers in any state: no call throws, what is refused changes nothing but status(), the same calls give
 * the same answers, and no call makes an object.
 */
public final class AnyCallTest extends Checks {
    private static final int[] EDGES = {Integer.MIN_VALUE, Integer.MIN_VALUE + 1, -1000000, -41, -2, -1, 0, 1, 2, 3,
        4, 5, 6, 7, 8, 9, 10, 11, 12, 13, 39, 40, 41, 59, 60, 61, 255, 256, 599, 600, Integer.MAX_VALUE - 1,
        Integer.MAX_VALUE};
    private static final String[] PARTS = {"end ", "deal ", "one ", "two ", ";", "0 ", "2 ", "3 ", "6 ", "12 ", "99 ",
        "100 ", "\n", "x", "!", "end 5 ", "one 0 2 ", "two 1 3 ", "deal 2 6 end 1 6 "};
    private static final String[] TEXTS = {
        "deal 2 6 one 0 2 two 2 2 end 60 end 70 end 55 6 one 1 2 two 2 2 end 60 end 30 end 45;",
        "one 0 2 one 1 2 end 1 end 2 one 1 2 end 3 end 0;",
        "two 0 3 two 1 2 one 2 2 end 1 end 99 end 51 end 3 end 4;",
        "end 50;"};

    private static int any(Random random) {
        return random.nextInt(4) == 0 ? EDGES[random.nextInt(EDGES.length)] : random.nextInt(14) - 1;
    }

    private static long call(HalfGames x, int which, int[] a, long w) {
        switch (which) {
            case 0: return x.row(a[0], a[1], a[2]);
            case 1: return x.set(a[0], a[1], a[2]);
            case 2: return x.copy(a[0], a[1], a[2], a[3], a[4]);
            case 3: return x.drop(a[0]);
            case 4: return x.feed(w, a[0]);
            case 5: return x.game();
            case 6: return x.fault();
            case 7: return x.place(a[0], a[1]);
            case 8: return x.seen(a[0], a[1]);
            case 9: return x.forgets(a[0]);
            case 10: return x.mix(a[0], a[1], a[2]);
            case 11: return x.share(a[0], a[1]);
            case 12: return x.value();
            case 13: return x.reach(a[0], a[1]);
            case 14: return x.best(a[0], a[1]);
            case 15: return x.answer(a[0]);
            case 16: return x.belief(a[0], a[1]);
            case 17: return x.seeing(a[0]);
            case 18: return x.fewer(a[0], a[1]);
            case 19: return x.rounds(a[0]);
            case 20: return x.bound(a[0]);
            case 21: return x.mean(a[0], a[1]);
            case 22: return x.take(a[0]);
            case 23: return x.kind(a[0]);
            case 24: return x.as(a[0], a[1]);
            case 25: return x.ask(a[0], a[1]);
            case 26: return x.trace(a[0]);
            case 27: return x.count(a[0]);
            default: return x.status();
        }
    }

    /** All that the calls tell without changing anything, as one number. */
    private static long picture(HalfGames x) {
        long all = x.fault();
        for (int what = 0; what < 7; what++) {
            all = all * 31 + x.count(what);
        }
        for (int p = 0; p < 60; p++) {
            for (int what = 0; what < 6; what++) {
                all = all * 31 + x.place(p, what);
            }
        }
        for (int s = 0; s < 10; s++) {
            for (int act = 0; act < 3; act++) {
                all = all * 31 + x.share(s, act);
                all = all * 31 + x.mean(s, act);
                all = all * 31 + x.seen(s, act);
            }
        }
        for (int i = 0; i < 16; i++) {
            all = all * 31 + x.trace(i);
        }
        return all * 31 + x.bound(0) + 7 * x.bound(1);
    }

    private static void dueUnchanged(HalfGames x, int which, int[] a, long w) {
        long before = picture(x);
        int status = x.status();
        long answer = call(x, which, a, w);
        boolean isRefused = answer < HalfGames.NOT && answer > HalfGames.NOT - 100;
        if (isRefused && before != picture(x)) {
            fail("call " + which + " was refused and changed something");
        }
        if (answer < HalfGames.NOT && answer > HalfGames.NOT - 10 && status != x.status()) {
            fail("call " + which + " was BAD, STATE or FULL and changed status()");
        }
        if (answer < HalfGames.NOT - 10 && isRefused && x.status() != HalfGames.NOT - 10 - answer) {
            fail("call " + which + " told a FINDING that status() does not");
        }
    }

    private static void runOne(long seed, boolean isSlow) {
        Random random = new Random(seed);
        HalfGames x = new HalfGames();
        HalfGames y = new HalfGames();
        int[] a = new int[5];
        for (int k = 0; k < 512; k++) {
            int dice = random.nextInt(100);
            if (dice < 2) {
                String told = TEXTS[random.nextInt(TEXTS.length)];
                feed(x, told);
                feed(y, told);
            } else if (dice < 6) {
                String part = PARTS[random.nextInt(PARTS.length)];
                feed(x, part);
                feed(y, part);
            }
            int which = random.nextInt(29);
            for (int i = 0; i < 5; i++) {
                a[i] = any(random);
            }
            long w = random.nextLong();
            if (isSlow) {
                dueUnchanged(x, which, a, w);
            } else {
                due("call " + which + " on a second object", call(y, which, a, w), call(x, which, a, w));
            }
        }
    }

    private static void dueNoObjects() {
        com.sun.management.ThreadMXBean bean =
                (com.sun.management.ThreadMXBean) ManagementFactory.getThreadMXBean();
        long id = Thread.currentThread().getId();
        HalfGames x = new HalfGames();
        byte[] told = TEXTS[0].getBytes(StandardCharsets.ISO_8859_1);
        int[] a = new int[5];
        bean.getThreadAllocatedBytes(id);
        long before = bean.getThreadAllocatedBytes(id);
        for (int again = 0; again < 50; again++) {
            for (byte b : told) {
                x.feed(b, 1);
            }
            for (int which = 0; which < 29; which++) {
                for (int i = 0; i < 200; i++) {
                    a[0] = i % 11;
                    a[1] = i % 7;
                    a[2] = i % 5;
                    call(x, which, a, 0);
                }
                if (which == 4) {
                    x.game();
                    for (byte b : told) {
                        x.feed(b, 1);
                    }
                }
            }
        }
        long made = bean.getThreadAllocatedBytes(id) - before;
        // Reading the counter may itself make a little.
        if (made > 4096) {
            fail("calls made " + made + " bytes of objects");
        }
    }

    public static void main(String[] args) {
        for (long seed = 0; seed < 3000; seed++) {
            try {
                runOne(seed, seed % 4 == 0);
            } catch (RuntimeException | StackOverflowError thrown) {
                fail("seed " + seed + ": " + thrown);
                thrown.printStackTrace(System.out);
            }
        }
        dueNoObjects();
        finish();
    }
}
