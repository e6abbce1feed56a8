import java.math.BigInteger;

/** Boundary cases of promises 23 to 26: images, counts, the digest. */
final class AllEdges {
    private AllEdges() {
    }

    // ---- promise 23

    @Holds(promise = 23, says = "STATE: no ROPE.")
    static void noImageWithoutARope(Due d) {
        Edges.refused(d, "image()", Edges::none, x -> x.image(), Edges.STATE);
        Edges.refused(d, "image(), a rope on the page", () -> Edges.page(Edges.TWO), x -> x.image(), Edges.STATE);
    }

    @Holds(promise = 23, says = "how many TIDES there were")
    static void imageAtTheFirstTideAndLater(Due d) {
        RopeVote x = Edges.two();
        d.is("image()", x.image(), 0);
        x.tide();
        d.is("image()", x.image(), 1);
        for (int time = 2; time <= 300; time++) x.tide();
        d.is("image()", x.image(), 300);
    }

    @Holds(promise = 23, says = "An IMAGE is kept (one; the latest)")
    static void onlyTheLatestImage(Due d) {
        RopeVote x = Edges.two();
        x.image();
        x.grow(0, 5);
        x.image();
        x.grow(0, 7);
        d.is("restore()", x.restore(), 0);
        d.is("mussel(0, 1)", x.mussel(0, 1), 5);
        d.is("restore() again", x.restore(), 0);
        d.is("mussel(0, 1)", x.mussel(0, 1), 5);
    }

    @Holds(promise = 23, says = "An IMAGE is kept (one; the latest)")
    static void imageChangesNothingElse(Due d) {
        RopeVote x = Edges.busy();
        long before = x.digest();
        d.is("image()", x.image(), 2);
        d.is("digest()", x.digest(), before);
        d.is("restore()", x.restore(), 2);
        d.is("digest()", x.digest(), before);
    }

    // ---- promise 24

    @Holds(promise = 24, says = "STATE: none was kept, or there is another ROPE since")
    static void nothingWasKept(Due d) {
        Edges.refused(d, "restore() without a rope", Edges::none, x -> x.restore(), Edges.STATE);
        Edges.refused(d, "restore()", Edges::two, x -> x.restore(), Edges.STATE);
        Edges.refused(d, "restore() of eight", Edges::eight, x -> x.restore(), Edges.STATE);
    }

    private static RopeVote anotherRope() {
        RopeVote x = Edges.busy();
        x.blank();
        Due.write(x, Edges.TWO);
        x.rope();
        x.cut(1);
        x.see(0, 0, 201);
        return x;
    }

    @Holds(promise = 24, says = "STATE: none was kept, or there is another ROPE since")
    static void anotherRopeSince(Due d) {
        Edges.refused(d, "restore()", AllEdges::anotherRope, x -> x.restore(), Edges.STATE);
        RopeVote x = Edges.two();
        x.image();
        Due.write(x, Edges.TWO);
        x.rope();
        d.is("restore(), the other rope is alike", x.restore(), Edges.STATE);
        d.is("image()", x.image(), 0);
        d.is("restore()", x.restore(), 0);
    }

    @Holds(promise = 24, says = "STATE: none was kept, or there is another ROPE since")
    static void noOtherRopeButATextThatIsNone(Due d) {
        RopeVote x = Edges.two();
        x.image();
        x.grow(0, 9);
        Due.write(x, "m1+++");
        d.is("rope()", x.rope(), Edges.STATE);
        d.is("restore()", x.restore(), 0);
        d.is("mussel(0, 1)", x.mussel(0, 1), 1);
        d.is("count(9)", x.count(9), 5);
    }

    @Holds(promise = 24, says = "An IMAGE keeps WEIGHTS, how all LEAN, THREADS, TIDES, how often each QUESTION was asked, and CARRIED, SEEN.")
    static void allThatAnImageKeeps(Due d) {
        RopeVote x = Edges.eight();
        x.cut(7);
        x.tide();
        for (int q = 0; q < 3; q++) x.ask(q);
        for (int m = 0; m < 6; m++) x.see(m, m % 3, x.question(m % 3, 0));
        long before = x.digest();
        x.image();
        for (int m = 0; m < 8; m++) {
            x.grow(m, 1);
            for (int q = 0; q < 3; q++) x.turn(m, q, x.as(m, 2) == m ? -1 : 1);
        }
        for (int q = 0; q < 3; q++) d.is("ask(" + q + ")", x.ask(q), 1);
        x.tide();
        for (int thread = 0; thread < 7; thread++) x.cut(thread);
        x.tie(7);
        x.forget();
        for (int many = 1; many <= 6; many++) x.see(7, 2, 0);
        d.is("restore()", x.restore(), 1);
        d.is("digest()", x.digest(), before);
    }

    @Holds(promise = 24, says = "An IMAGE keeps WEIGHTS, how all LEAN, THREADS, TIDES, how often each QUESTION was asked, and CARRIED, SEEN.")
    static void anImageKeepsWhatIsSeenToTheLastNumber(Due d) {
        RopeVote x = Due.hung("m2000,m3+0+");
        x.see(0, 0, 205);
        x.see(1, 2, 203);
        x.image();
        x.forget();
        x.see(1, 2, 200);
        x.see(0, 0, 203);
        d.is("restore()", x.restore(), 0);
        d.is("mussel(0, 20)", x.mussel(0, 20), 1);
        d.is("mussel(1, 22)", x.mussel(1, 22), 1);
        d.is("mussel(1, 20)", x.mussel(1, 20), 7);
        d.is("count(8)", x.count(8), 2);
    }

    @Holds(promise = 24, says = "It goes on from the IMAGE")
    static void whatIsDoneBehindRestoreLeavesTheImage(Due d) {
        RopeVote x = Edges.busy();
        x.restore();
        long kept = x.digest();
        x.turn(0, 0, -1);
        x.grow(3, 9);
        x.cut(0);
        x.tide();
        x.ask(1);
        x.see(3, 0, 200);
        d.is("restore()", x.restore(), 1);
        d.is("digest()", x.digest(), kept);
    }

    @Holds(promise = 24, says = "An IMAGE keeps WEIGHTS, how all LEAN, THREADS, TIDES, how often each QUESTION was asked, and CARRIED, SEEN.")
    static void whatAnImageDoesNotKeep(Due d) {
        RopeVote x = Edges.two();
        x.image();
        x.fewTurns(0, 1, 0);
        Due.write(x, "xyz");
        x.restore();
        d.is("count(9)", x.count(9), 3);
        d.is("fault()", x.fault(), 0);
        d.is("count(10)", x.count(10), 1);
        d.is("count(11)", x.count(11), 1);
    }

    // ---- promise 25

    @Holds(promise = 25, says = "OUTSIDE.")
    static void theLastCountAndTheNext(Due d) {
        d.is("count(0)", Edges.two().count(0), 2);
        d.is("count(11)", Edges.two().count(11), 0);
        for (int what : Edges.around(0, 11)) {
            Edges.refused(d, "count(" + what + ")", Edges::busy, x -> x.count(what), Edges.OUTSIDE);
            Edges.refused(d, "count(" + what + ") without a rope", Edges::none, x -> x.count(what), Edges.OUTSIDE);
        }
    }

    @Holds(promise = 25, says = "How many: 0 MUSSELS, 1 that are FELT at the rail")
    static void countsOfNothing(Due d) {
        for (int what = 0; what <= 11; what++) {
            int told = what;
            Edges.told(d, "count(" + what + ")", Edges::none, x -> x.count(told), 0);
        }
    }

    @Holds(promise = 25, says = "How many: 0 MUSSELS, 1 that are FELT at the rail")
    static void theLeastOfARope(Due d) {
        int[] due = {2, 2, 0, 2, 0, 0, 0, 0, 0, 0, 1, 0};
        RopeVote x = Due.hung("m1000,m1000");
        for (int what = 0; what <= 11; what++) d.is("count(" + what + ")", x.count(what), due[what]);
    }

    @Holds(promise = 25, says = "2 THREADS that are CUT, 3 all WEIGHTS, 4 TIDES, 5 how often any QUESTION was asked, 6 CARRIED of these")
    static void theMostOfARope(Due d) {
        RopeVote x = Due.hung("e9+++,e9+++,e9+++,e9+++,e9+++,e9+++,e9+++,e9+++");
        for (int q = 0; q < 3; q++) for (int time = 1; time <= 99; time++) x.ask(q);
        for (int many = 1; many <= 6; many++) x.see(0, 0, 344);
        for (int time = 1; time <= 20; time++) x.fewTurns(0, 1, 0);
        for (int many = 1; many <= 50; many++) x.letter('m');
        int[] due = {8, 8, 0, 72, 0, 297, 297, 3, 6, 50, 1, 20};
        for (int what = 0; what <= 11; what++) d.is("count(" + what + ")", x.count(what), due[what]);
        for (int thread = 0; thread < 8; thread++) x.cut(thread);
        x.tide();
        int[] cut = {8, 0, 8, 72, 1, 297, 297, 0, 6, 50, 1, 20};
        for (int what = 0; what <= 11; what++) d.is("all cut, count(" + what + ")", x.count(what), cut[what]);
    }

    @Holds(promise = 25, says = "7 QUESTIONS that are CARRIED now")
    static void questionsThatHangAreNotCarried(Due d) {
        int[] due = {0, 0, 0, 1, 2, 3};
        String[] texts = {"m1---,m2---", "m1000,m2000", "m2+++,m2---", "m2+--,m1000", "m2++-,m1000", "m3+++,m2---"};
        for (int i = 0; i < texts.length; i++) d.is("count(7) of " + texts[i], Due.hung(texts[i]).count(7), due[i]);
    }

    @Holds(promise = 25, says = "10 how often a ROPE was read")
    static void ropesThatWereRead(Due d) {
        RopeVote x = Edges.none();
        for (int many = 1; many <= 5; many++) {
            x.rope();
            Due.write(x, Edges.TWO);
            d.is("count(10) ahead", x.count(10), many - 1);
            x.rope();
            d.is("count(10) behind", x.count(10), many);
        }
    }

    @Holds(promise = 25, says = "11 how often fewTurns() was done")
    static void fewTurnsThatWereDone(Due d) {
        RopeVote x = Edges.none();
        x.fewTurns(0, 0, 0);
        d.is("refused without a rope, count(11)", x.count(11), 0);
        Due.write(x, "k1000,k1000");
        x.rope();
        x.fewTurns(0, 1, 0);
        d.is("answered NONE, count(11)", x.count(11), 1);
    }

    // ---- promise 26

    /** Every number of the digest by the calls it names, its sum without any bound, wrapped at the end alone. */
    private static long digestOf(RopeVote x, int many, String page) {
        BigInteger h = BigInteger.valueOf(1171);
        for (int m = 0; m < many; m++) {
            for (int what = 0; what <= 7; what++) h = mixed(h, x.mussel(m, what));
            for (int what = 10; what <= 12; what++) h = mixed(h, x.mussel(m, what));
            for (int what = 20; what <= 22; what++) h = mixed(h, x.mussel(m, what));
        }
        for (int q = 0; q < 3 && many > 0; q++) {
            for (int what = 0; what <= 5; what++) h = mixed(h, x.question(q, what));
            for (int m = 0; m < many; m++) for (int what = 0; what <= 1; what++) h = mixed(h, x.say(m, q, what));
            for (int what = 0; what <= 1; what++) h = mixed(h, x.chance(q, 3, what));
            for (int what = 0; what <= 1; what++) h = mixed(h, x.cuts(q, 1, what));
        }
        for (int what = 0; what <= 1 && many > 0; what++) h = mixed(h, x.settle(what));
        for (int i = 0; i < page.length(); i++) h = mixed(h, page.charAt(i));
        for (int what = 0; what <= 11; what++) h = mixed(h, x.count(what));
        return h.longValue();
    }

    private static BigInteger mixed(BigInteger h, int number) {
        return h.multiply(BigInteger.valueOf(31)).add(BigInteger.valueOf(number));
    }

    @Holds(promise = 26, says = "(as longs, wrapping)")
    static void digestsPastTheGreatestLong(Due d) {
        for (int many = 2; many <= 8; many++) {
            RopeVote x = Due.hung(Edges.ropeOf(many));
            d.is("digest() of " + Edges.ropeOf(many), x.digest(), digestOf(x, many, ""));
        }
        RopeVote busy = Edges.busy();
        d.is("digest() of busy()", busy.digest(), digestOf(busy, Edges.BUSY, "c9+"));
        boolean below = false;
        boolean above = false;
        for (int many = 2; many <= 8; many++) {
            long h = Due.hung(Edges.ropeOf(many)).digest();
            below |= h < 0;
            above |= h > Integer.MAX_VALUE;
        }
        d.holds("some are less than nothing", below);
        d.holds("some are above the greatest int", above);
    }

    @Holds(promise = 26, says = "with a ROPE of each QUESTION")
    static void digestWithoutARope(Due d) {
        d.is("digest()", Edges.none().digest(), digestOf(Edges.none(), 0, ""));
        RopeVote x = Edges.page(Edges.TWO);
        d.is("digest() of a page", x.digest(), digestOf(x, 0, Edges.TWO));
    }

    @Holds(promise = 26, says = "letters of THE PAGE")
    static void digestOfEmptyAndFullPages(Due d) {
        RopeVote x = Edges.two();
        d.is("an empty page, digest()", x.digest(), digestOf(x, 2, ""));
        String full = "!".repeat(25) + "~ ".repeat(12) + "m";
        Due.write(x, full);
        d.is("a full page, digest()", x.digest(), digestOf(x, 2, full));
        x.blank();
        d.is("an empty page again, digest()", x.digest(), digestOf(x, 2, ""));
    }

    @Holds(promise = 26, says = "`long digest()`")
    static void digestOnlyTells(Due d) {
        for (int time = 0; time < 3; time++) {
            RopeVote x = Edges.busy();
            for (int i = 0; i < time; i++) x.digest();
            Edges.same(d, "digest() only tells", x, Edges.busy());
        }
    }

    @Holds(promise = 26, says = "An object is used for at most 512 calls after it has been made")
    static void theLast512thCall(Due d) {
        RopeVote x = Edges.none();
        for (int call = 1; call <= 11; call++) x.letter(Edges.TWO.charAt(call - 1));
        x.rope();
        for (int call = 13; call <= 511; call++) d.is("call " + call + ", tide()", x.tide(), call - 12);
        d.is("call 512, tide()", x.tide(), 500);
    }
}
