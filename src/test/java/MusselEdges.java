/** Boundary cases of promises 6 to 8: what is told of mussels and questions. */
final class MusselEdges {
    private MusselEdges() {
    }

    // ---- promise 6

    @Holds(promise = 6, says = "UNKNOWN (a number names nothing)")
    static void theLastMusselAndTheNext(Due d) {
        for (int many = 2; many <= 8; many++) {
            String text = Edges.ropeOf(many);
            d.is("mussel(0, 6) of " + text, Due.hung(text).mussel(0, 6), 1);
            d.is("mussel(" + (many - 1) + ", 6) of " + text, Due.hung(text).mussel(many - 1, 6), 1);
            for (int m : Edges.around(0, many - 1)) {
                d.is("mussel(" + m + ", 6) of " + text, Due.hung(text).mussel(m, 6), Edges.UNKNOWN);
            }
        }
    }

    @Holds(promise = 6, says = "UNKNOWN (a number names nothing)")
    static void noMusselWithoutARope(Due d) {
        for (int what = 0; what <= 22; what++) {
            int told = what;
            Edges.refused(d, "mussel(0, " + what + ")", Edges::none, x -> x.mussel(0, told), Edges.UNKNOWN);
        }
    }

    @Holds(promise = 6, says = "10 to 12 what it PULLS on QUESTION 0 to 2 (told as 100 more), 20 to 22 LEANS on it, as bits")
    static void allThatIsTold(Due d) {
        RopeVote x = Due.hung("m4+0-,e3000");
        int[] due = {0, 4, 1, 0, -1, 1, 1, 0, Edges.OUTSIDE, Edges.OUTSIDE, 104, 100, 96, Edges.OUTSIDE, Edges.OUTSIDE,
            Edges.OUTSIDE, Edges.OUTSIDE, Edges.OUTSIDE, Edges.OUTSIDE, Edges.OUTSIDE, 7, 7, 7, Edges.OUTSIDE};
        for (int what = 0; what < due.length; what++) d.is("mussel(0, " + what + ")", x.mussel(0, what), due[what]);
    }

    @Holds(promise = 6, says = "0 MUSSEL \"m\", 1 ELDER \"e\", 2 CRANK \"c\", 3 KNOT \"k\", 4 SWAYED \"s\"")
    static void theFirstKindAndTheLast(Due d) {
        RopeVote x = Due.hung("m1000,e1000,c1000,k1000,s1000");
        for (int m = 0; m < 5; m++) d.is("mussel(" + m + ", 0)", x.mussel(m, 0), m);
    }

    @Holds(promise = 6, says = "OUTSIDE (it is not as told)")
    static void whatIsNotTold(Due d) {
        for (int what : new int[] {Edges.LEAST, -65536, -1, 8, 9, 13, 19, 23, 65536, Edges.MOST}) {
            Edges.refused(d, "mussel(0, " + what + ")", Edges::busy, x -> x.mussel(0, what), Edges.OUTSIDE);
        }
    }

    @Holds(promise = 6, says = "of several the first as told by each call")
    static void anUnknownMusselAndWhatIsNotTold(Due d) {
        for (int what : new int[] {-1, 8, 9, 13, 19, 23}) {
            Edges.refused(d, "mussel(-1, " + what + ")", Edges::busy, x -> x.mussel(-1, what), Edges.UNKNOWN);
            Edges.refused(d, "mussel(4, " + what + ")", Edges::busy, x -> x.mussel(Edges.BUSY, what), Edges.UNKNOWN);
            Edges.refused(d, "mussel(0, " + what + ") without a rope", Edges::none, x -> x.mussel(0, what), Edges.UNKNOWN);
        }
    }

    @Holds(promise = 6, says = "they change nothing")
    static void musselOnlyTells(Due d) {
        RopeVote x = Edges.busy();
        for (int m = -1; m <= Edges.BUSY; m++) for (int what = -1; what <= 23; what++) x.mussel(m, what);
        d.is("mussel(0, 1)", x.mussel(0, 1), 7);
        Edges.same(d, "mussel() only tells", x, Edges.busy());
    }

    @Holds(promise = 6, says = "What is behind a CUT THREAD is not FELT at the rail.")
    static void feltAheadOfACutAndNotBehind(Due d) {
        for (int thread = 0; thread < 8; thread++) {
            RopeVote x = Edges.eight();
            x.cut(thread);
            for (int m = 0; m < 8; m++) {
                d.is("cut(" + thread + "), mussel(" + m + ", 5)", x.mussel(m, 5), m < thread ? 1 : 0);
                d.is("cut(" + thread + "), mussel(" + m + ", 6)", x.mussel(m, 6), m == thread ? 0 : 1);
            }
        }
    }

    @Holds(promise = 6, says = "10 to 12 what it PULLS on QUESTION 0 to 2 (told as 100 more)")
    static void theLeastAndTheGreatestPull(Due d) {
        RopeVote x = Due.hung("e9+-0,c9+-0");
        int[][] due = {{118, 82, 100}, {91, 109, 100}};
        for (int m = 0; m < 2; m++) {
            for (int q = 0; q < 3; q++) d.is("mussel(" + m + ", " + (10 + q) + ")", x.mussel(m, 10 + q), due[m][q]);
        }
    }

    @Holds(promise = 6, says = "if not both its neighbours (on whole THREADS, ahead and behind) LEAN one way")
    static void knotsAtTheEndsHaveNotBothNeighbours(Due d) {
        RopeVote x = Due.hung("k9+-0,m1+-0,k9+-0");
        for (int q = 0; q < 3; q++) {
            d.is("nearest the rail: mussel(0, " + (10 + q) + ")", x.mussel(0, 10 + q), 100);
            d.is("at the deep end: mussel(2, " + (10 + q) + ")", x.mussel(2, 10 + q), 100);
        }
    }

    @Holds(promise = 6, says = "if not both its neighbours (on whole THREADS, ahead and behind) LEAN one way")
    static void knotsByTheirNeighbours(Due d) {
        for (int ahead = -1; ahead <= 1; ahead++) {
            for (int behind = -1; behind <= 1; behind++) {
                RopeVote x = Due.hung("m1000,k7000,m1000");
                x.turn(0, 0, ahead);
                x.turn(2, 0, behind);
                int due = ahead == behind ? 7 * ahead : 0;
                d.is("between " + ahead + " and " + behind, x.mussel(1, 10), 100 + due);
                x.cut(1);
                d.is("cut ahead", x.mussel(1, 10), 100);
                x.tie(1);
                x.cut(2);
                d.is("cut behind", x.mussel(1, 10), 100);
                x.tie(2);
                x.cut(0);
                d.is("the rail is no neighbour", x.mussel(1, 10), 100 + due);
            }
        }
    }

    @Holds(promise = 6, says = "a SWAYED one its WEIGHT that way, too, if both do so, else as a MUSSEL")
    static void swayedOnesAtTheEndsAreAsMussels(Due d) {
        RopeVote x = Due.hung("s9-+0,m1+-+,s9-+0");
        int[] due = {91, 109, 100};
        for (int q = 0; q < 3; q++) {
            d.is("nearest the rail: mussel(0, " + (10 + q) + ")", x.mussel(0, 10 + q), due[q]);
            d.is("at the deep end: mussel(2, " + (10 + q) + ")", x.mussel(2, 10 + q), due[q]);
        }
    }

    @Holds(promise = 6, says = "a SWAYED one its WEIGHT that way, too, if both do so, else as a MUSSEL")
    static void swayedOnesByTheirNeighbours(Due d) {
        for (int ahead = -1; ahead <= 1; ahead++) {
            for (int own = -1; own <= 1; own++) {
                for (int behind = -1; behind <= 1; behind++) {
                    RopeVote x = Due.hung("m1000,s7000,m1000");
                    x.turn(0, 0, ahead);
                    x.turn(1, 0, own);
                    x.turn(2, 0, behind);
                    int due = ahead == behind && ahead != 0 ? 7 * ahead : 7 * own;
                    d.is(own + " between " + ahead + " and " + behind, x.mussel(1, 10), 100 + due);
                    x.cut(2);
                    d.is("cut behind", x.mussel(1, 10), 100 + 7 * own);
                }
            }
        }
    }

    @Holds(promise = 6, says = "as bits (1 for, 2 neither, 4 against)")
    static void leansWithNothingSeen(Due d) {
        for (int m = 0; m < 8; m++) {
            for (int q = 0; q < 3; q++) d.is("mussel(" + m + ", " + (20 + q) + ")", Edges.eight().mussel(m, 20 + q), 7);
        }
    }

    @Holds(promise = 6, says = "as bits (1 for, 2 neither, 4 against)")
    static void leansByOneThatIsSeen(Due d) {
        int[] sums = {206, 205, 204, 203, 202, 201};
        int[] due = {0, 1, 0, 2, 0, 4};
        for (int i = 0; i < sums.length; i++) {
            RopeVote x = Due.hung("m2000,m3+00");
            x.see(0, 0, sums[i]);
            d.is("seen " + sums[i] + ", mussel(0, 20)", x.mussel(0, 20), due[i]);
            d.is("seen " + sums[i] + ", of another question, mussel(0, 21)", x.mussel(0, 21), 7);
            d.is("seen " + sums[i] + ", of another mussel, mussel(1, 20)", x.mussel(1, 20), 7);
        }
    }

    @Holds(promise = 6, says = "so that all that is SEEN of it there is so")
    static void leansIfWhatIsSeenDoesNotAgree(Due d) {
        RopeVote x = Due.hung("m2000,m3+00");
        x.see(0, 0, 205);
        x.see(0, 0, 205);
        d.is("the same twice, mussel(0, 20)", x.mussel(0, 20), 1);
        x.see(0, 0, 201);
        d.is("for and against, mussel(0, 20)", x.mussel(0, 20), 0);
    }

    @Holds(promise = 6, says = "so that all that is SEEN of it there is so")
    static void leansBySixThatAreSeen(Due d) {
        RopeVote x = Due.hung("m2000,m3+00");
        for (int i = 0; i < 5; i++) x.see(1, 1, 200);
        d.is("five of another mussel, mussel(0, 20)", x.mussel(0, 20), 7);
        x.see(0, 0, 203);
        d.is("the sixth counts, mussel(0, 20)", x.mussel(0, 20), 2);
    }

    @Holds(promise = 6, says = "none, if by none there are fewer")
    static void askWhereNoSumTellsAnything(Due d) {
        RopeVote x = Edges.two();
        d.is("felt: mussel(0, 7)", x.mussel(0, 7), 0);
        x.cut(0);
        d.is("not felt: mussel(0, 7)", x.mussel(0, 7), Edges.NONE);
        d.is("a knot at the deep end, ahead a mussel: mussel(1, 7)", Due.hung("m1+++,k9+++").mussel(1, 7), Edges.NONE);
    }

    @Holds(promise = 6, says = "if these are fewer than now: of like ones the least")
    static void askGoesOnToTheNextQuestion(Due d) {
        RopeVote x = Edges.two();
        for (int q = 0; q < 3; q++) {
            d.is("mussel(0, 7)", x.mussel(0, 7), q);
            x.see(0, q, x.question(q, 0));
        }
        d.is("one lean is left on each: mussel(0, 7)", x.mussel(0, 7), Edges.NONE);
        d.is("another mussel: mussel(1, 7)", x.mussel(1, 7), 0);
    }

    @Holds(promise = 6, says = "if these are fewer than now: of like ones the least")
    static void askPassesOverWhereNoLeanIsLeft(Due d) {
        RopeVote x = Edges.two();
        x.see(0, 0, 0);
        x.see(0, 1, 400);
        d.is("mussel(0, 20)", x.mussel(0, 20), 0);
        d.is("mussel(0, 7)", x.mussel(0, 7), 2);
        x.see(0, 2, 0);
        d.is("none is left on any: mussel(0, 7)", x.mussel(0, 7), Edges.NONE);
    }

    @Holds(promise = 6, says = "so that fewest of its LEANS on that one are left at worst, by the SUM")
    static void askWhereTwoOfThreeAreLeftAtWorst(Due d) {
        // The swayed one between two for pulls 1 however it leans; the knot behind is moved by it, if it leans for.
        RopeVote x = Due.hung("m1+00,s1000,k4+00,m1+00");
        d.is("on 0 two are left at worst, on 1 one is: mussel(1, 7)", x.mussel(1, 7), 1);
        x.see(1, 1, 200);
        x.see(1, 2, 200);
        d.is("two of three are fewer: mussel(1, 7)", x.mussel(1, 7), 0);
        x.see(1, 0, 203);
        d.is("neither and against are left: mussel(1, 20)", x.mussel(1, 20), 6);
        d.is("two of two are not fewer: mussel(1, 7)", x.mussel(1, 7), Edges.NONE);
    }

    // ---- promise 7

    @Holds(promise = 7, says = "UNKNOWN (a number names nothing)")
    static void asOfTheLastMusselAndTheNext(Due d) {
        for (int many = 2; many <= 8; many++) {
            String text = Edges.ropeOf(many);
            d.is("as(" + (many - 1) + ", 0) of " + text, Due.hung(text).as(many - 1, 0), many - 1);
            for (int m : Edges.around(0, many - 1)) d.is("as(" + m + ", 0) of " + text, Due.hung(text).as(m, 0), Edges.UNKNOWN);
        }
        Edges.refused(d, "as(4, 0)", Edges::busy, x -> x.as(Edges.BUSY, 0), Edges.UNKNOWN);
        Edges.refused(d, "as(0, 0) without a rope", Edges::none, x -> x.as(0, 0), Edges.UNKNOWN);
    }

    @Holds(promise = 7, says = "OUTSIDE (it is not as told)")
    static void theLastKindAndTheNext(Due d) {
        d.is("as(0, 0)", Due.hung("s1000,s1000").as(0, 0), 0);
        d.is("as(1, 4)", Due.hung("s1000,s1000").as(1, 4), 1);
        for (int kind : Edges.around(0, 4)) {
            Edges.refused(d, "as(0, " + kind + ")", Edges::busy, x -> x.as(0, kind), Edges.OUTSIDE);
        }
    }

    @Holds(promise = 7, says = "of several the first as told by each call")
    static void anUnknownMusselAsAKindOutside(Due d) {
        Edges.refused(d, "as(-1, -1)", Edges::busy, x -> x.as(-1, -1), Edges.UNKNOWN);
        Edges.refused(d, "as(4, 5)", Edges::busy, x -> x.as(Edges.BUSY, 5), Edges.UNKNOWN);
        Edges.refused(d, "as(0, 5) without a rope", Edges::none, x -> x.as(0, 5), Edges.UNKNOWN);
    }

    @Holds(promise = 7, says = "NONE: it is none such (the cast fails)")
    static void castsThatFail(Due d) {
        RopeVote x = Due.hung("m1000,e1000,c1000,k1000,s1000");
        int[][] due = {{0, -1, -1, -1, -1}, {1, 1, -1, -1, -1}, {2, -1, 2, -1, -1}, {3, -1, -1, 3, -1}, {4, -1, -1, 4, 4}};
        for (int m = 0; m < 5; m++) {
            for (int kind = 0; kind < 5; kind++) d.is("as(" + m + ", " + kind + ")", x.as(m, kind), due[m][kind]);
        }
        Edges.told(d, "as(0, 1)", Edges::busy, y -> y.as(0, 1), Edges.NONE);
    }

    // ---- promise 8

    @Holds(promise = 8, says = "UNKNOWN: question (0 to 2; also without a ROPE)")
    static void theLastQuestionAndTheNext(Due d) {
        d.is("question(0, 0)", Edges.two().question(0, 0), 197);
        d.is("question(2, 0)", Edges.two().question(2, 0), 204);
        for (int q : Edges.around(0, 2)) {
            Edges.refused(d, "question(" + q + ", 0)", Edges::busy, x -> x.question(q, 0), Edges.UNKNOWN);
        }
    }

    @Holds(promise = 8, says = "UNKNOWN: question (0 to 2; also without a ROPE)")
    static void noQuestionWithoutARope(Due d) {
        for (int q = 0; q < 3; q++) {
            for (int what = 0; what <= 5; what++) d.is("question(" + q + ", " + what + ")", Edges.none().question(q, what), Edges.UNKNOWN);
        }
        Edges.refused(d, "question(0, 0)", Edges::none, x -> x.question(0, 0), Edges.UNKNOWN);
    }

    @Holds(promise = 8, says = "OUTSIDE (it is not as told)")
    static void theLastThatIsToldOfAQuestionAndTheNext(Due d) {
        d.is("question(0, 5)", Edges.two().question(0, 5), 1);
        for (int what : Edges.around(0, 5)) {
            Edges.refused(d, "question(0, " + what + ")", Edges::busy, x -> x.question(0, what), Edges.OUTSIDE);
        }
    }

    @Holds(promise = 8, says = "of several the first as told by each call")
    static void anUnknownQuestionAndWhatIsNotTold(Due d) {
        Edges.refused(d, "question(-1, -1)", Edges::busy, x -> x.question(-1, -1), Edges.UNKNOWN);
        Edges.refused(d, "question(3, 6)", Edges::busy, x -> x.question(3, 6), Edges.UNKNOWN);
        Edges.refused(d, "question(0, 6) without a rope", Edges::none, x -> x.question(0, 6), Edges.UNKNOWN);
    }

    @Holds(promise = 8, says = "it is CARRIED, if that is more than 0, LOST, if less, else it HANGS")
    static void sumsNextToNothing(Due d) {
        int[] weights = {4, 5, 6};
        int[] due = {-1, 0, 1};
        for (int i = 0; i < 3; i++) {
            RopeVote x = Due.hung("m1+00,m5-00");
            x.grow(0, weights[i]);
            d.is("question(0, 0)", x.question(0, 0), 200 + due[i]);
            d.is("question(0, 1)", x.question(0, 1), due[i]);
        }
    }

    @Holds(promise = 8, says = "all that is PULLED on it by MUSSELS that are FELT at the rail, together (told as 200 more)")
    static void theGreatestAndTheLeastSum(Due d) {
        RopeVote x = Due.hung("e9+-0,e9+-0,e9+-0,e9+-0,e9+-0,e9+-0,e9+-0,e9+-0");
        d.is("question(0, 0)", x.question(0, 0), 344);
        d.is("question(1, 0)", x.question(1, 0), 56);
        d.is("question(2, 0)", x.question(2, 0), 200);
    }

    @Holds(promise = 8, says = "all that is PULLED on it by MUSSELS that are FELT at the rail, together (told as 200 more)")
    static void theSumOfNobody(Due d) {
        RopeVote x = Edges.eight();
        x.cut(0);
        for (int q = 0; q < 3; q++) {
            d.is("question(" + q + ", 0)", x.question(q, 0), 200);
            d.is("question(" + q + ", 1)", x.question(q, 1), 0);
        }
    }

    @Holds(promise = 8, says = "4 how many LEAN for it, 5 against (FELT at the rail, or not)")
    static void leaningAllOrNone(Due d) {
        RopeVote x = Due.hung("m1+-0,e1+-0,c1+-0,k1+-0,s1+-0,m1+-0,m1+-0,m1+-0");
        x.cut(0);
        int[][] due = {{8, 0}, {0, 8}, {0, 0}};
        for (int q = 0; q < 3; q++) {
            d.is("question(" + q + ", 4)", x.question(q, 4), due[q][0]);
            d.is("question(" + q + ", 5)", x.question(q, 5), due[q][1]);
        }
    }

    @Holds(promise = 8, says = "2 how often it was asked, 3 CARRIED of these")
    static void askedNeverAndAsOftenAsCanBe(Due d) {
        RopeVote x = Due.hung("m1+-0,m1+-0");
        d.is("question(0, 2)", x.question(0, 2), 0);
        d.is("question(0, 3)", x.question(0, 3), 0);
        for (int time = 0; time < 100; time++) x.ask(0);
        d.is("question(0, 2)", x.question(0, 2), 99);
        d.is("question(0, 3)", x.question(0, 3), 99);
        d.is("question(1, 2)", x.question(1, 2), 0);
    }
}
