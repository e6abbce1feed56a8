import java.math.BigInteger;

/** Boundary cases of promises 20 to 22: what is seen, tides by a seed. */
final class SeenEdges {
    private SeenEdges() {
    }

    // ---- promise 20

    private static RopeVote sixSeen() {
        RopeVote x = Due.hung("m2000,m3+00");
        for (int i = 0; i < 3; i++) {
            x.see(0, i, x.question(i, 0));
            x.see(1, i, x.question(i, 0));
        }
        return x;
    }

    @Holds(promise = 20, says = "UNKNOWN: mussel, question")
    static void seeTheLastMusselAndTheNext(Due d) {
        d.is("see(0, 0, 200)", Edges.eight().see(0, 0, 200), 1);
        d.is("see(7, 0, 200)", Edges.eight().see(7, 0, 200), 1);
        for (int m : Edges.around(0, Edges.BUSY - 1)) {
            Edges.refused(d, "see(" + m + ", 0, 200)", Edges::busy, x -> x.see(m, 0, 200), Edges.UNKNOWN);
        }
        for (int many = 2; many <= 8; many++) {
            int next = many;
            Edges.refused(d, "see(" + many + ", 0, 200)", () -> Due.hung(Edges.ropeOf(next)), x -> x.see(next, 0, 200), Edges.UNKNOWN);
        }
    }

    @Holds(promise = 20, says = "UNKNOWN: mussel, question")
    static void seeTheLastQuestionAndTheNext(Due d) {
        d.is("see(0, 0, 200)", Edges.two().see(0, 0, 200), 1);
        d.is("see(0, 2, 200)", Edges.two().see(0, 2, 200), 1);
        for (int q : Edges.around(0, 2)) {
            Edges.refused(d, "see(0, " + q + ", 200)", Edges::busy, x -> x.see(0, q, 200), Edges.UNKNOWN);
        }
    }

    @Holds(promise = 20, says = "UNKNOWN: mussel, question")
    static void seeWithoutARope(Due d) {
        Edges.refused(d, "see(0, 0, 200)", Edges::none, x -> x.see(0, 0, 200), Edges.UNKNOWN);
    }

    @Holds(promise = 20, says = "OUTSIDE: sum (as told, 200 more: 0 to 400)")
    static void theLastSumAndTheNext(Due d) {
        d.is("see(0, 0, 0)", Edges.two().see(0, 0, 0), 1);
        d.is("see(0, 0, 400)", Edges.two().see(0, 0, 400), 1);
        for (int sum : Edges.around(0, 400)) {
            Edges.refused(d, "see(0, 0, " + sum + ")", Edges::busy, x -> x.see(0, 0, sum), Edges.OUTSIDE);
        }
    }

    @Holds(promise = 20, says = "OUTSIDE: sum (as told, 200 more: 0 to 400)")
    static void sumsThatNoRopeHas(Due d) {
        for (int sum : new int[] {0, 400}) {
            RopeVote x = Edges.eight();
            x.see(0, 0, sum);
            d.is("seen " + sum + ", mussel(0, 20)", x.mussel(0, 20), 0);
            d.is("mussel(0, 21)", x.mussel(0, 21), 7);
        }
    }

    @Holds(promise = 20, says = "SEEN (6 at most)")
    static void theSixthThatIsSeenAndTheNext(Due d) {
        RopeVote x = Edges.two();
        for (int many = 1; many <= 6; many++) d.is("see(0, 0, 200), the " + many + "th", x.see(0, 0, 200), many);
        d.is("see(0, 0, 200), the 7th", x.see(0, 0, 200), Edges.FULL);
        d.is("see(1, 2, 200), the 7th", x.see(1, 2, 200), Edges.FULL);
        d.is("count(8)", x.count(8), 6);
        d.is("mussel(1, 22)", x.mussel(1, 22), 7);
    }

    @Holds(promise = 20, says = "SEEN (6 at most)")
    static void sixThatAreSeenStay(Due d) {
        Edges.refused(d, "see(0, 0, 0)", SeenEdges::sixSeen, x -> x.see(0, 0, 0), Edges.FULL);
        Edges.refused(d, "see(1, 2, 203)", SeenEdges::sixSeen, x -> x.see(1, 2, 203), Edges.FULL);
    }

    @Holds(promise = 20, says = "of several the first as told by each call")
    static void seeWithSeveralWrong(Due d) {
        for (int sum : new int[] {-1, 401}) {
            Edges.refused(d, "see(4, 0, " + sum + ")", Edges::busy, x -> x.see(Edges.BUSY, 0, sum), Edges.UNKNOWN);
            Edges.refused(d, "see(0, 3, " + sum + ")", Edges::busy, x -> x.see(0, 3, sum), Edges.UNKNOWN);
            Edges.refused(d, "see(0, 0, " + sum + ") without a rope", Edges::none, x -> x.see(0, 0, sum), Edges.UNKNOWN);
            Edges.refused(d, "see(0, 0, " + sum + "), 6 seen", SeenEdges::sixSeen, x -> x.see(0, 0, sum), Edges.OUTSIDE);
        }
        Edges.refused(d, "see(2, 0, 200), 6 seen", SeenEdges::sixSeen, x -> x.see(2, 0, 200), Edges.UNKNOWN);
        Edges.refused(d, "see(0, 3, 200), 6 seen", SeenEdges::sixSeen, x -> x.see(0, 3, 200), Edges.UNKNOWN);
        Edges.refused(d, "see(2, 3, 401), 6 seen", SeenEdges::sixSeen, x -> x.see(2, 3, 401), Edges.UNKNOWN);
    }

    @Holds(promise = 20, says = "An IMAGE keeps WEIGHTS, how all LEAN, THREADS, TIDES, how often each QUESTION was asked, and CARRIED, SEEN.")
    static void sixThatAreSeenBehindRestore(Due d) {
        RopeVote x = Edges.two();
        x.see(0, 0, 197);
        x.image();
        for (int many = 2; many <= 6; many++) x.see(0, 0, 0);
        d.is("see(0, 0, 0)", x.see(0, 0, 0), Edges.FULL);
        x.restore();
        d.is("mussel(0, 20)", x.mussel(0, 20), 1);
        d.is("see(0, 1, 200)", x.see(0, 1, 200), 2);
    }

    // ---- promise 21

    @Holds(promise = 21, says = "how much was")
    static void forgetNothing(Due d) {
        Edges.told(d, "forget()", Edges::two, x -> x.forget(), 0);
        Edges.told(d, "forget() without a rope", Edges::none, x -> x.forget(), 0);
    }

    @Holds(promise = 21, says = "how much was")
    static void forgetOneAndSix(Due d) {
        RopeVote x = Edges.two();
        x.see(0, 0, 200);
        d.is("forget() of one", x.forget(), 1);
        d.is("forget() of six", sixSeen().forget(), 6);
        d.is("forget() again", x.forget(), 0);
    }

    @Holds(promise = 21, says = "Nothing is SEEN any more")
    static void nothingIsLeftBehindForget(Due d) {
        RopeVote x = sixSeen();
        x.forget();
        Edges.same(d, "forget() leaves nothing", x, Due.hung("m2000,m3+00"));
        RopeVote y = sixSeen();
        y.forget();
        d.is("count(8)", y.count(8), 0);
        for (int many = 1; many <= 6; many++) d.is("see(1, 1, 200), the " + many + "th", y.see(1, 1, 200), many);
        d.is("see(1, 1, 200), the 7th", y.see(1, 1, 200), Edges.FULL);
        d.is("mussel(0, 20)", y.mussel(0, 20), 7);
    }

    // ---- promise 22

    private static int next(int seed) {
        return (int) ((1103515245L * seed + 12345) % (1L << 31));
    }

    /** The tides by a seed, done for real. */
    private static void tidesAre(Due d, String text, int times, int seed) {
        RopeVote x = Due.hung(text);
        int drawn = seed;
        int carried = 0;
        int sums = 0;
        for (int time = 0; time < times; time++) {
            drawn = next(drawn);
            int q = drawn / 65536 % 3;
            sums += x.question(q, 0) - 200;
            if (x.ask(q) == 1) carried++;
            drawn = next(drawn);
            int m = drawn / 65536 % x.count(0);
            int lean = x.mussel(m, 2 + q);
            x.turn(m, q, lean == 1 ? -1 : lean == -1 ? 0 : 1);
            x.tide();
        }
        RopeVote y = Due.hung(text);
        String told = "of " + text + ", tides(" + times + ", " + seed + ", ";
        d.is(told + "0)", y.tides(times, seed, 0), carried);
        d.is(told + "1)", y.tides(times, seed, 1), 10000 + sums);
        d.is(told + "2)", y.tides(times, seed, 2), drawn);
    }

    @Holds(promise = 22, says = "OUTSIDE: times (1 to 60), seed (0 at least), what")
    static void theLastTimesAndTheNext(Due d) {
        tidesAre(d, Edges.EIGHT, 1, 5);
        tidesAre(d, Edges.EIGHT, 60, 5);
        for (int times : Edges.around(1, 60)) {
            Edges.refused(d, "tides(" + times + ", 5, 0)", Edges::busy, x -> x.tides(times, 5, 0), Edges.OUTSIDE);
        }
    }

    @Holds(promise = 22, says = "OUTSIDE: times (1 to 60), seed (0 at least), what")
    static void theLeastAndTheGreatestSeed(Due d) {
        tidesAre(d, Edges.TWO, 60, 0);
        tidesAre(d, Edges.TWO, 60, 1);
        tidesAre(d, Edges.TWO, 60, Edges.MOST);
        tidesAre(d, Edges.EIGHT, 60, Edges.MOST);
        for (int seed : new int[] {-1, -65536, Edges.LEAST}) {
            Edges.refused(d, "tides(1, " + seed + ", 0)", Edges::busy, x -> x.tides(1, seed, 0), Edges.OUTSIDE);
        }
    }

    @Holds(promise = 22, says = "1103515245 times it and 12345, its rest by 2 to the 31")
    static void seedsPastTwoToThe31(Due d) {
        BigInteger two31 = BigInteger.TWO.pow(31);
        for (int seed : new int[] {0, 1, 2, 65535, 65536, 1 << 30, Edges.MOST - 1, Edges.MOST}) {
            BigInteger drawn = BigInteger.valueOf(seed);
            for (int i = 0; i < 2; i++) {
                drawn = drawn.multiply(BigInteger.valueOf(1103515245)).add(BigInteger.valueOf(12345)).mod(two31);
            }
            d.is("tides(1, " + seed + ", 2)", Edges.two().tides(1, seed, 2), drawn.longValueExact());
        }
    }

    @Holds(promise = 22, says = "OUTSIDE: times (1 to 60), seed (0 at least), what")
    static void tidesHowOftenSumsSeedAndNoMore(Due d) {
        for (int what : Edges.around(0, 2)) {
            Edges.refused(d, "tides(1, 1, " + what + ")", Edges::busy, x -> x.tides(1, 1, what), Edges.OUTSIDE);
        }
    }

    @Holds(promise = 22, says = "STATE: no ROPE.")
    static void noTidesWithoutARope(Due d) {
        for (int what = 0; what <= 2; what++) {
            int told = what;
            Edges.refused(d, "tides(1, 1, " + what + ")", Edges::none, x -> x.tides(1, 1, told), Edges.STATE);
        }
    }

    @Holds(promise = 22, says = "of several the first as told by each call")
    static void tidesWithSeveralWrong(Due d) {
        Edges.refused(d, "tides(0, 1, 0) without a rope", Edges::none, x -> x.tides(0, 1, 0), Edges.OUTSIDE);
        Edges.refused(d, "tides(61, 1, 0) without a rope", Edges::none, x -> x.tides(61, 1, 0), Edges.OUTSIDE);
        Edges.refused(d, "tides(1, -1, 0) without a rope", Edges::none, x -> x.tides(1, -1, 0), Edges.OUTSIDE);
        Edges.refused(d, "tides(1, 1, 3) without a rope", Edges::none, x -> x.tides(1, 1, 3), Edges.OUTSIDE);
        Edges.refused(d, "tides(0, -1, 3)", Edges::busy, x -> x.tides(0, -1, 3), Edges.OUTSIDE);
    }

    @Holds(promise = 22, says = "a MUSSEL by a DRAW of how many there are")
    static void tidesOfEveryLength(Due d) {
        for (int many = 2; many <= 8; many++) {
            for (int seed = 0; seed < 10; seed++) tidesAre(d, Edges.ropeOf(many), 30, seed);
        }
    }

    @Holds(promise = 22, says = "TIDES by a SEED, as they would be")
    static void tidesOnlyTell(Due d) {
        for (int what = 0; what <= 2; what++) {
            int told = what;
            int due = Edges.busy().tides(60, 9, what);
            Edges.told(d, "tides(60, 9, " + what + ")", Edges::busy, x -> x.tides(60, 9, told), due);
        }
    }

    @Holds(promise = 22, says = "TIDES by a SEED, as they would be")
    static void tidesGoPastWhatIsFull(Due d) {
        RopeVote x = Due.hung("m1+-0,m1+-0");
        int due = x.tides(60, 9, 1);
        for (int q = 0; q < 3; q++) for (int time = 0; time < 99; time++) x.ask(q);
        d.is("each question was asked 99 times, tides(60, 9, 1)", x.tides(60, 9, 1), due);
        d.is("count(5)", x.count(5), 297);
    }

    @Holds(promise = 22, says = "all SUMS together (told as 10000 more)")
    static void tidesOfNobody(Due d) {
        RopeVote x = Edges.eight();
        x.cut(0);
        d.is("tides(60, 7, 0)", x.tides(60, 7, 0), 0);
        d.is("tides(60, 7, 1)", x.tides(60, 7, 1), 10000);
    }
}
