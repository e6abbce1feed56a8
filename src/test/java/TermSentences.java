/** The sentences of "What it is" and "Terms", in the document's order, each on ordinary inputs worked out by hand. */
final class TermSentences {
    private static final int[] NOBODY = {0, 1};

    private TermSentences() {
    }

    // ---- section 1: a rope, its kinds and threads

    @Holds(promise = 5, says = "A ROPE is a text: two to eight MUSSELS (numbered from 0, 0 nearest the rail) with \",\" between, "
            + "each a letter, the KIND, a digit, the WEIGHT (1 to 9), and three signs, how it LEANS on QUESTIONS 0, 1, 2:")
    static void aRopeIsAText(Due d) {
        RopeVote x = Edges.page(Town.ROPE);
        d.is("rope()", x.rope(), Town.SIZE);
        for (int m = 0; m < Town.SIZE; m++) {
            d.is("mussel(" + m + ", 0)", x.mussel(m, 0), Town.KINDS[m]);
            d.is("mussel(" + m + ", 1)", x.mussel(m, 1), Town.WEIGHTS[m]);
        }
        Town.leansAre(d, "as read", x, Town.LEANS);
        d.is("cut(1): 0 is nearest the rail", x.cut(1), 1);
        d.is("mussel(0, 5)", x.mussel(0, 5), 1);
    }

    @Holds(promise = 26, says = "An object is used for at most 512 calls after it has been made; what later calls answer is free.")
    static void lateCallsAreAnsweredAsEarlyOnes(Due d) {
        RopeVote x = Town.hung();
        int made = Town.ROPE.length() + 1;
        for (int call = made + 1; call < 512; call++) x.turn(0, 0, call % 3 - 1);
        RopeVote y = Town.hung();
        y.turn(0, 0, 511 % 3 - 1);
        d.is("call 512, digest()", x.digest(), y.digest());
    }

    @Holds(promise = 6, says = "\"+\" for, \"-\" against, \"0\" neither.")
    static void threeSigns(Due d) {
        Town.leansAre(d, "three signs", Due.hung("m1+-0,m1-0+,m10+-"), new int[][] {{1, -1, 0}, {-1, 0, 1}, {0, 1, -1}});
    }

    @Holds(promise = 1, says = "At first there is none; then no THREAD is cut, it is TIDE 0.")
    static void noneAtFirstThenWholeAndTideNothing(Due d) {
        RopeVote x = Edges.page(Town.ROPE);
        d.is("at first, count(0)", x.count(0), 0);
        d.is("at first, tide()", x.tide(), Edges.STATE);
        x.rope();
        d.is("then, count(2)", x.count(2), 0);
        d.is("then, count(4)", x.count(4), 0);
        for (int t = 0; t < Town.SIZE; t++) d.is("then, mussel(" + t + ", 6)", x.mussel(t, 6), 1);
    }

    @Holds(promise = 6, says = "KINDS are told by the letter: 0 MUSSEL \"m\", 1 ELDER \"e\", 2 CRANK \"c\", 3 KNOT \"k\", 4 SWAYED \"s\".")
    static void kindsByTheLetter(Due d) {
        for (int kind = 0; kind < 5; kind++) {
            RopeVote x = Due.hung("m1000," + "mecks".charAt(kind) + "1000");
            d.is("mussel(1, 0) of " + "mecks".charAt(kind), x.mussel(1, 0), kind);
            d.is("as(1, " + kind + ")", x.as(1, kind), 1);
        }
    }

    @Holds(promise = 7, says = "All are MUSSELS; a SWAYED one is a KNOT, too.")
    static void allAreMusselsOneIsAKnotToo(Due d) {
        RopeVote x = Town.hung();
        for (int m = 0; m < Town.SIZE; m++) {
            for (int kind = 0; kind < 5; kind++) {
                boolean such = kind == 0 || kind == Town.KINDS[m] || kind == 3 && Town.KINDS[m] == 4;
                d.is("as(" + m + ", " + kind + ")", x.as(m, kind), such ? m : Edges.NONE);
            }
        }
    }

    @Holds(promise = 11, says = "There is a THREAD ahead of each MUSSEL (numbered as it; THREAD 0 leads to the rail), whole, or CUT.")
    static void aThreadAheadOfEach(Due d) {
        for (int t = 0; t < Town.SIZE; t++) {
            RopeVote x = Town.hung();
            d.is("cut(" + t + ")", x.cut(t), t);
            for (int m = 0; m < Town.SIZE; m++) d.is("mussel(" + m + ", 6)", x.mussel(m, 6), m == t ? 0 : 1);
        }
    }

    // ---- section 1: pulls, sums, tides

    @Holds(promise = 6, says = "What a MUSSEL PULLS on a QUESTION is its WEIGHT, if it LEANS for it, that less than 0, if against, "
            + "0, if neither; an ELDER twice as much; a CRANK the other way about (less than 0 for, more against);")
    static void whatThreeKindsPull(Due d) {
        RopeVote x = Due.hung("m4+-0,e3+-0,c2+-0");
        Town.pullsAre(d, "for", x, 0, 4, 6, -2);
        Town.pullsAre(d, "against", x, 1, -4, -6, 2);
        Town.pullsAre(d, "neither", x, 2, 0, 0, 0);
    }

    @Holds(promise = 6, says = "a KNOT 0, if not both its neighbours (on whole THREADS, ahead and behind) LEAN one way; "
            + "else its WEIGHT that way, whatever it LEANS itself; "
            + "a SWAYED one its WEIGHT that way, too, if both do so, else as a MUSSEL.")
    static void whatKnotsPullBetweenAnyTwo(Due d) {
        RopeVote x = Due.hung("m1000,k5000,m1000,s6000,m1000");
        for (int all = 0; all < 243; all++) {
            int[] leans = {all % 3 - 1, all / 3 % 3 - 1, all / 9 % 3 - 1, all / 27 % 3 - 1, all / 81 - 1};
            for (int m = 0; m < 5; m++) x.turn(m, 0, leans[m]);
            int knot = leans[0] == leans[2] ? 5 * leans[0] : 0;
            int swayed = leans[2] == leans[4] && leans[2] != 0 ? 6 * leans[2] : 6 * leans[3];
            Town.pullsAre(d, "leans " + all, x, 0, leans[0], knot, leans[2], swayed, leans[4]);
        }
    }

    @Holds(promise = 6, says = "a KNOT 0, if not both its neighbours (on whole THREADS, ahead and behind) LEAN one way;")
    static void whatKnotsPullOnCutThreads(Due d) {
        int[][] due = {{5, -6}, {5, -6}, {5, -6}, {0, -6}, {0, 6}, {5, 6}};
        for (int t = 0; t < Town.SIZE; t++) {
            RopeVote x = Town.hung();
            x.cut(t);
            d.is("cut " + t + ", mussel(3, 10)", x.mussel(3, 10), 100 + due[t][0]);
            d.is("cut " + t + ", mussel(4, 10)", x.mussel(4, 10), 100 + due[t][1]);
        }
    }

    @Holds(promise = 8, says = "The SUM of a QUESTION is all that is PULLED on it by MUSSELS that are FELT at the rail, together "
            + "(told as 200 more); it is CARRIED, if that is more than 0, LOST, if less, else it HANGS.")
    static void sumsOfWhatIsFelt(Due d) {
        RopeVote x = Town.hung();
        int[] outs = {-1, -1, 1};
        for (int q = 0; q < 3; q++) {
            Town.pullsAre(d, "whole", x, q, Town.PULLS[q]);
            d.is("question(" + q + ", 0)", x.question(q, 0), 200 + Town.SUMS[q]);
            d.is("question(" + q + ", 1)", x.question(q, 1), outs[q]);
        }
        // The swayed one loses the neighbour it agreed with: 4 - 6 - 2 + 5 + 6.
        x.cut(5);
        d.is("cut 5, question(0, 0)", x.question(0, 0), 207);
        d.is("cut 5, question(0, 1)", x.question(0, 1), 1);
        x.cut(0);
        d.is("nothing felt, question(0, 0)", x.question(0, 0), 200);
        d.is("nothing felt, question(0, 1)", x.question(0, 1), 0);
    }

    @Holds(promise = 10, says = "On a TIDE, on each QUESTION, each MUSSEL LEANS then as most of those three LEAN now: itself, and its "
            + "neighbours on whole THREADS (those that LEAN for it less those that LEAN against: "
            + "for, if that is more than 0, against, if less; else it stays); all at once. A CRANK never changes.")
    static void whatATideDoes(Due d) {
        RopeVote x = Town.hung();
        d.is("tide()", x.tide(), 1);
        Town.leansAre(d, "behind a tide", x, Town.LEANS_BEHIND_A_TIDE);
        d.is("tide() again", x.tide(), 2);
        Town.leansAre(d, "behind two tides", x, Town.LEANS_BEHIND_A_TIDE);
        // With thread 3 cut, 0 to 2 and 3 to 5 go by themselves, felt or not.
        RopeVote y = Town.hung();
        y.cut(3);
        y.tide();
        Town.leansAre(d, "cut 3, behind a tide", y, new int[][] {{1, 1, 1, -1, -1, -1}, {1, 1, -1, -1, -1, 1}, {-1, 0, 1, 1, 1, 1}});
    }

    // ---- section 2: what would be

    @Holds(promise = 15, says = "SAY of a MUSSEL on a QUESTION: if all that are FELT at the rail join one behind the other, in any order, "
            + "each as likely, and what each PULLS for it (as now) is added up (who PULLS nothing, or against, adds nothing), "
            + "how likely it is the one by whom that first comes to more than half of all that is PULLED for it "
            + "(nobody is, if nothing is): in whole parts.")
    static void whoHasHowMuchSay(Due d) {
        // Of 4, more than 2 is needed: 2 is the one unless it joins first of the three; the crank, though it leans for, pulls against.
        RopeVote x = Due.hung("m1+00,m1+00,m2+00,c1+00,m9+00");
        x.cut(4);
        Town.saysAre(d, x, 0, new int[] {1, 6}, new int[] {1, 6}, new int[] {2, 3}, NOBODY, NOBODY);
        Town.saysAre(d, x, 1, NOBODY, NOBODY, NOBODY, NOBODY, NOBODY);
        // Any two of 2, 3, 4 are more than half of 9: the second of them to join is the one.
        int[] third = {1, 3};
        Town.saysAre(d, Due.hung("m2+00,m3+00,m9-00,m4+00"), 0, third, third, NOBODY, third);
        // The knot pulls 5 of 9.
        Town.saysAre(d, Town.hung(), 0, NOBODY, NOBODY, NOBODY, new int[] {1, 1}, NOBODY, NOBODY);
    }

    @Holds(promise = 16, says = "CHANCE for a QUESTION, and tenths (0 to 10): if each MUSSEL that is FELT, by itself, lets go with so many "
            + "tenths of 10 (then it PULLS 0; all others as now): how likely it is CARRIED, in whole parts.")
    static void howLikelyItIsCarried(Due d) {
        // Only if 0 holds and 1 lets go.
        Town.chanceIs(d, Due.hung("m1+00,m2-00"), 3, 21, 100);
        Town.chanceIs(d, Due.hung("m1+00,m2-00"), 5, 1, 4);
        // Whenever 0 holds; what 2 does is not felt.
        RopeVote x = Due.hung("m3+00,m2-00,m9+00");
        x.cut(2);
        Town.chanceIs(d, x, 3, 7, 10);
        // The knot pulls as now, though its neighbours let go: only if all three let go it is not carried.
        Town.chanceIs(d, Due.hung("m1+00,k5000,m1+00"), 3, 973, 1000);
        Town.chanceIs(d, Due.hung("m1+00,k5000,m1+00"), 0, 1, 1);
        Town.chanceIs(d, Due.hung("m1+00,k5000,m1+00"), 10, 0, 1);
    }

    @Holds(promise = 17, says = "CUTS for a QUESTION and how it should come out (1 CARRIED, 0 HANGS, -1 LOST): by how few THREADS more, "
            + "CUT (of whole ones), it does: how few; which, as bits; of like ones the least; none.")
    static void byHowFewCuts(Due d) {
        RopeVote x = Town.hung();
        Town.cutsAre(d, x, 0, 1, 1, 1 << 1);
        Town.cutsAre(d, x, 0, 0, 1, 1 << 0);
        Town.cutsAre(d, x, 0, -1, 0, 0);
        Town.cutsAre(d, x, 1, 1, 1, 1 << 2);
        Town.cutsAre(d, x, 2, -1, 1, 1 << 1);
        Town.cutsAre(d, Due.hung("m1+00,m1000"), 0, -1, Edges.NONE, Edges.NONE);
        // Thread 0 is cut: nothing more is felt by any cut.
        x.cut(0);
        Town.cutsAre(d, x, 0, 0, 0, 0);
        Town.cutsAre(d, x, 0, 1, Edges.NONE, Edges.NONE);
    }

    @Holds(promise = 18, says = "TURNS: by how few MUSSELS that LEAN otherwise then on it (each any way), it does: how few; which, as bits; "
            + "of like ones the least; none.")
    static void byHowFewTurns(Due d) {
        RopeVote x = Town.hung();
        // The elder for question 0: 12 more; neither: 6 more.
        Town.turnsAre(d, x, 0, 1, 1, 1 << 1);
        Town.turnsAre(d, x, 0, 0, 1, 1 << 1);
        Town.turnsAre(d, x, 0, -1, 0, 0);
        Town.turnsAre(d, x, 2, -1, 1, 1 << 1);
        // None alone, nor two that are less as bits: the elder against (-6), the swayed one for, so that the knot pulls 5.
        Town.turnsAre(d, x, 2, 0, 2, 1 << 1 | 1 << 4);
        Town.turnsAre(d, Due.hung("k1000,k1000"), 0, 1, Edges.NONE, Edges.NONE);
    }

    @Holds(promise = 19, says = "SETTLE: behind how many TIDES, the fewest (1 at least), all MUSSELS LEAN on all QUESTIONS as they did behind "
            + "fewer TIDES: how many; behind how many they did so first (0: as now).")
    static void whereItSettles(Due d) {
        RopeVote x = Town.hung();
        d.is("settle(0)", x.settle(0), 2);
        d.is("settle(1)", x.settle(1), 1);
        x.tide();
        d.is("settled, settle(0)", x.settle(0), 1);
        d.is("settled, settle(1)", x.settle(1), 0);
        // One further each tide, on question 2 alone.
        RopeVote y = Due.hung("m1++-,m1++0,m1++0,m1++0,m1++0");
        d.is("round by round, settle(0)", y.settle(0), 5);
        d.is("round by round, settle(1)", y.settle(1), 4);
    }

    // ---- section 3: what is seen, tides by a seed

    @Holds(promise = 20, says = "SEEN (6 at most): how great the SUM of a QUESTION would be, if a MUSSEL, of which it is not known how it LEANS "
            + "on it, LEANS on it as it does. LEANS it can have on a QUESTION, all else as it is, so that all that is SEEN of it "
            + "there is so: as bits (1 for, 2 neither, 4 against).")
    static void whichLeansAreLeft(Due d) {
        // By how 0 leans the sum on question 0 is -6, -10 or -14.
        int[] sums = {194, 190, 186};
        for (int i = 0; i < 3; i++) {
            RopeVote x = Town.hung();
            d.is("see(0, 0, " + sums[i] + ")", x.see(0, 0, sums[i]), 1);
            d.is("mussel(0, 20)", x.mussel(0, 20), 1 << i);
            x.turn(0, 0, 1 - (i + 1) % 3);
            d.is("it leans otherwise, mussel(0, 20)", x.mussel(0, 20), 1 << i);
            x.grow(5, 2);
            d.is("all else is otherwise, mussel(0, 20)", x.mussel(0, 20), 0);
        }
        // By how the knot leans the swayed one pulls 6 on question 0 (for, neither) or -6 (against).
        RopeVote x = Town.hung();
        x.see(3, 0, 206);
        d.is("mussel(3, 20)", x.mussel(3, 20), 3);
        d.is("mussel(3, 21)", x.mussel(3, 21), 7);
    }

    @Holds(promise = 6, says = "ASK for a MUSSEL: on which QUESTION to feel the rail, so that fewest of its LEANS on that one are left at worst, "
            + "by the SUM, if these are fewer than now: of like ones the least; none, if by none there are fewer.")
    static void whichQuestionToAskNext(Due d) {
        RopeVote x = Town.hung();
        d.is("one of three on each, mussel(0, 7)", x.mussel(0, 7), 0);
        d.is("two of three on each, mussel(3, 7)", x.mussel(3, 7), 0);
        x.see(3, 0, 206);
        d.is("two of two on 0, mussel(3, 7)", x.mussel(3, 7), 1);
        // On 0 the crank and the knot it moves undo each other (for: -5 + 5; neither: 0): two are left at worst, on 1 one.
        d.is("two on 0, one on 1, mussel(0, 7)", Due.hung("c5000,k5+00,m1+00").mussel(0, 7), 1);
        x.cut(3);
        d.is("not felt, mussel(3, 7)", x.mussel(3, 7), Edges.NONE);
    }

    @Holds(promise = 22, says = "TIDES by a SEED, as they would be: so many times a QUESTION by a DRAW of 3 is asked; then a MUSSEL by a DRAW of "
            + "how many there are turns on it (from for to against, from against to neither, from neither to for); then there is a "
            + "TIDE: how often it was CARRIED; all SUMS together (told as 10000 more).")
    static void tidesAsTheyWouldBe(Due d) {
        // Draws: question 0, mussel 0; 1, 1; 0, 1; 1, 1. Sums: -6, 2, -19, -10.
        RopeVote x = Town.hung();
        long before = x.digest();
        Town.tidesAre(d, x, 1, 0, 0, 9994, 1406932606);
        Town.tidesAre(d, x, 2, 0, 1, 9996, 1449466924);
        Town.tidesAre(d, x, 3, 0, 1, 9977, 1109335178);
        Town.tidesAre(d, x, 4, 0, 1, 9967, 1293799192);
        d.is("nothing was done, digest()", x.digest(), before);
        // Of two: mussel 0 turns from neither to for on question 0, the other goes along.
        Town.tidesAre(d, Due.hung("m1000,m1000"), 3, 0, 1, 10002, 1109335178);
    }

    @Holds(promise = 22, says = "DRAWS: the next SEED each time: 1103515245 times it and 12345, its rest by 2 to the 31; "
            + "then that by 65536 (rounded down), its rest.")
    static void seedsGoOn(Due d) {
        // Two draws a time: a run goes on where a shorter one ended.
        RopeVote x = Town.hung();
        int seed = 77;
        for (int times = 1; times <= 60; times++) {
            seed = x.tides(1, seed, 2);
            d.is("tides(" + times + ", 77, 2)", x.tides(times, 77, 2), seed);
        }
        d.is("tides(1, 1, 2)", x.tides(1, 1, 2), 377401575);
    }

    @Holds(promise = 24, says = "An IMAGE keeps WEIGHTS, how all LEAN, THREADS, TIDES, how often each QUESTION was asked, and CARRIED, SEEN.")
    static void whatAnImageKeeps(Due d) {
        RopeVote x = Town.hung();
        x.ask(2);
        x.tide();
        x.cut(4);
        x.see(0, 0, 190);
        x.grow(0, 8);
        long before = x.digest();
        x.image();
        x.grow(0, 1);
        x.turn(0, 0, -1);
        x.tie(4);
        x.tide();
        x.ask(2);
        x.ask(0);
        x.forget();
        d.is("restore()", x.restore(), 1);
        d.is("digest()", x.digest(), before);
        d.is("mussel(0, 1)", x.mussel(0, 1), 8);
        d.is("mussel(0, 2)", x.mussel(0, 2), 1);
        d.is("mussel(4, 6)", x.mussel(4, 6), 0);
        d.is("question(2, 2)", x.question(2, 2), 1);
        d.is("question(2, 3)", x.question(2, 3), 1);
        d.is("question(0, 2)", x.question(0, 2), 0);
        d.is("count(8)", x.count(8), 1);
    }

    @Holds(promise = 24, says = "An IMAGE keeps WEIGHTS, how all LEAN, THREADS, TIDES, how often each QUESTION was asked, and CARRIED, SEEN.")
    static void whatAnImageDoesNotKeep(Due d) {
        RopeVote x = Town.hung();
        x.image();
        x.fewTurns(0, 1, 0);
        Due.write(x, "m1");
        x.restore();
        d.is("count(9)", x.count(9), 2);
        d.is("count(11)", x.count(11), 1);
    }

    @Holds(promise = 20, says = "Refusals, of several the first as told by each call: UNKNOWN (a number names nothing), "
            + "OUTSIDE (it is not as told), STATE (as told), FULL; they change nothing.")
    static void refusalsInOrder(Due d) {
        RopeVote x = Town.hung();
        for (int i = 0; i < 6; i++) x.see(0, 0, 190);
        for (int i = 0; i < 20; i++) x.fewTurns(0, 1, 0);
        long before = x.digest();
        d.is("see(6, 0, 401)", x.see(6, 0, 401), Edges.UNKNOWN);
        d.is("see(0, 0, 401)", x.see(0, 0, 401), Edges.OUTSIDE);
        d.is("see(0, 0, 400)", x.see(0, 0, 400), Edges.FULL);
        d.is("fewTurns(3, 2, 0)", x.fewTurns(3, 2, 0), Edges.UNKNOWN);
        d.is("fewTurns(2, 2, 0)", x.fewTurns(2, 2, 0), Edges.OUTSIDE);
        d.is("fewTurns(2, 1, 0)", x.fewTurns(2, 1, 0), Edges.STATE);
        d.is("they change nothing, digest()", x.digest(), before);
    }
}
