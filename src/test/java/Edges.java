import java.util.ArrayList;
import java.util.List;
import java.util.function.Supplier;
import java.util.function.ToLongFunction;

/** What the tests of boundary cases share: states to begin with, numbers around a range, refusals. */
final class Edges {
    static final int NONE = -1, UNKNOWN = -101, OUTSIDE = -102, STATE = -103, FULL = -104;
    static final int LEAST = Integer.MIN_VALUE, MOST = Integer.MAX_VALUE;
    static final String TWO = "m1+-0,e2-0+";
    static final String EIGHT = "k9+-0,s8-+0,m7+-+,s6-+0,e5+-+,c4-+0,k3+-+,m2-+0";
    /** Four mussels in busy(). */
    static final int BUSY = 4;

    private Edges() {
    }

    static RopeVote none() {
        return new RopeVote();
    }

    static RopeVote two() {
        return Due.hung(TWO);
    }

    static RopeVote eight() {
        return Due.hung(EIGHT);
    }

    static RopeVote page(String text) {
        RopeVote x = new RopeVote();
        Due.write(x, text);
        return x;
    }

    /** Something of everything was done, there are letters on the page, and the image is not as it is now. */
    static RopeVote busy() {
        RopeVote x = Due.hung("m4+0-,s3-+0,e2+-+,k5-0+");
        x.ask(0);
        x.ask(1);
        x.tide();
        x.see(0, 0, x.question(0, 0));
        x.see(2, 1, x.question(1, 0));
        x.cut(3);
        x.image();
        x.turn(1, 2, -1);
        x.grow(0, 7);
        x.ask(2);
        x.tide();
        x.tie(3);
        x.cut(2);
        x.see(1, 2, x.question(2, 0));
        x.fewTurns(0, 1, 0);
        Due.write(x, "c9+");
        return x;
    }

    /** A rope of so many mussels, 2 to 8. */
    static String ropeOf(int many) {
        return EIGHT.substring(0, 6 * many - 1);
    }

    /** The first numbers that are not taken, on both sides, the utmost ones, and such as a narrower type would take. */
    static int[] around(int least, int most) {
        return new int[] {LEAST, least - 65536, least - 1, most + 1, least + 65536, MOST};
    }

    /** The call is refused so, and the object then goes on as one does on which it was not called. */
    static void refused(Due d, String told, Supplier<RopeVote> made, ToLongFunction<RopeVote> call, int want) {
        RopeVote x = made.get();
        d.is(told, call.applyAsLong(x), want);
        same(d, told + " is refused", x, made.get());
    }

    /** The call is answered so, and only tells. */
    static void told(Due d, String told, Supplier<RopeVote> made, ToLongFunction<RopeVote> call, int want) {
        RopeVote x = made.get();
        d.is(told, call.applyAsLong(x), want);
        same(d, told + " only tells", x, made.get());
    }

    /** Both are used up: what they hold shows only as they go on. */
    static void same(Due d, String why, RopeVote x, RopeVote twin) {
        List<Long> one = goneOn(x);
        List<Long> other = goneOn(twin);
        int at = 0;
        while (at < one.size() && at < other.size() && one.get(at).equals(other.get(at))) at++;
        d.holds(why + ", but it goes on otherwise, at step " + at, one.equals(other));
    }

    private static List<Long> goneOn(RopeVote x) {
        List<Long> all = new ArrayList<>();
        tellAll(x, all);
        all.add((long) x.fewTurns(0, -1, 1));
        for (int q = 0; q < 3; q++) all.add((long) x.ask(q));
        all.add((long) x.restore());
        tellAll(x, all);
        all.add((long) x.tide());
        all.add((long) x.forget());
        all.add((long) x.letter('m'));
        all.add(x.digest());
        all.add((long) x.blank());
        Due.write(x, TWO);
        all.add((long) x.rope());
        all.add(x.digest());
        all.add((long) x.restore());
        return all;
    }

    // Each lean is tried: what is SEEN is told only where it fits a sum.
    private static void tellAll(RopeVote x, List<Long> all) {
        all.add(x.digest());
        all.add((long) x.fault());
        all.add((long) x.tides(7, 5, 1));
        for (int m = 0; m < x.count(0); m++) {
            for (int q = 0; q < 3; q++) {
                int lean = x.mussel(m, 2 + q);
                for (int way = -1; way <= 1; way++) {
                    all.add((long) x.turn(m, q, way));
                    all.add(x.digest());
                }
                x.turn(m, q, lean);
            }
        }
    }
}
