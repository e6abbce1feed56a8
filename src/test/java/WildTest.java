import java.lang.management.ManagementFactory;
import java.util.Random;

/** No call throws, whatever its arguments and the state; no refusal changes anything; calls make no objects. */
public final class WildTest {
    private static final Due DUE = new Due();
    private static final int[] EDGES = {Integer.MIN_VALUE, -105, -104, -2, -1, 0, 1, 2, 3, 4, 5, 7, 8, 9, 10, 11, 12, 13, 20, 22, 23,
        31, 32, 50, 60, 61, 126, 127, 200, 400, 401, 65536, Integer.MAX_VALUE};
    private static final String EIGHT = "k9+-0,s8-+0,k7+-+,s6-+0,e5+-+,c4-+0,k3+-+,s2-+0";

    private static int edge(Random r) {
        return EDGES[r.nextInt(EDGES.length)];
    }

    private static int call(RopeVote x, int which, int a, int b, int c) {
        switch (which) {
            case 0: return x.letter(a);
            case 1: return x.blank();
            case 2: return x.fault();
            case 3: return x.rope();
            case 4: return x.mussel(a, b);
            case 5: return x.as(a, b);
            case 6: return x.question(a, b);
            case 7: return x.ask(a);
            case 8: return x.tide();
            case 9: return x.cut(a);
            case 10: return x.tie(a);
            case 11: return x.turn(a, b, c);
            case 12: return x.grow(a, b);
            case 13: return x.say(a, b, c);
            case 14: return x.chance(a, b, c);
            case 15: return x.cuts(a, b, c);
            case 16: return x.fewTurns(a, b, c);
            case 17: return x.settle(a);
            case 18: return x.see(a, b, c);
            case 19: return x.forget();
            case 20: return x.tides(a, b, c);
            case 21: return x.image();
            case 22: return x.restore();
            default: return x.count(a);
        }
    }

    private static RopeVote drawnState(Random r) {
        if (r.nextInt(4) == 0) return new RopeVote();
        RopeVote x = Due.hung(r.nextBoolean() ? EIGHT : "m1+-0,e2000");
        for (int t = 0; t < 8; t++) if (r.nextInt(6) == 0) x.cut(t);
        for (int i = r.nextInt(8); i > 0; i--) x.see(r.nextInt(2), r.nextInt(3), 195 + r.nextInt(10));
        if (r.nextBoolean()) x.image();
        return x;
    }

    private static void wildCalls() {
        for (int seed = 0; seed < 2000; seed++) {
            Random r = new Random(seed);
            RopeVote x = drawnState(r);
            for (int i = 0; i < 150; i++) {
                int which = r.nextInt(24);
                int a = edge(r);
                int b = edge(r);
                int c = edge(r);
                long before = x.digest();
                int answer = call(x, which, a, b, c);
                boolean refused = answer <= -101 && answer >= -104;
                String told = "seed " + seed + " call " + which + "(" + a + ", " + b + ", " + c + ")";
                if (refused) DUE.is(told + " is refused; digest()", x.digest(), before);
                boolean onlyTells = which == 2 || which >= 4 && which <= 6 || which >= 13 && which <= 15 || which == 17
                        || which == 20 || which == 21 || which == 23;
                if (onlyTells) DUE.is(told + " only tells; digest()", x.digest(), before);
            }
        }
    }

    /** One room holds all that a run makes: beyond its constructor a run is to make nothing. */
    private static void madeByCalls() {
        com.sun.management.ThreadMXBean threads =
                (com.sun.management.ThreadMXBean) ManagementFactory.getThreadMXBean();
        long thread = Thread.currentThread().getId();
        RopeVote x = Due.hung(EIGHT);
        long sink = 0;
        long made = Long.MAX_VALUE;
        for (int round = 0; round < 5; round++) {
            long before = threads.getThreadAllocatedBytes(thread);
            for (int i = 0; i < 100; i++) {
                sink += x.digest() + x.tides(60, i, 0) + x.settle(0) + x.fewTurns(0, 1, 0) + x.image() + x.restore();
            }
            made = Math.min(made, threads.getThreadAllocatedBytes(thread) - before);
        }
        DUE.holds("600 calls make next to nothing (" + made + " bytes, " + (sink & 1) + ")", made < 4096);
    }

    public static void main(String[] args) {
        wildCalls();
        madeByCalls();
        DUE.end("WildTest");
    }
}
