/** Boundary cases of promises 15 to 19: what would be. */
final class WouldEdges {
    private static final String ALIKE = "m1+-0,m1+-0,m1+-0,m1+-0,m1+-0,m1+-0,m1+-0,m1+-0";

    private WouldEdges() {
    }

    // ---- promise 15

    private static void sayIs(Due d, RopeVote x, int mussel, int above, int below) {
        d.is("say(" + mussel + ", 0, 0)", x.say(mussel, 0, 0), above);
        d.is("say(" + mussel + ", 0, 1)", x.say(mussel, 0, 1), below);
    }

    @Holds(promise = 15, says = "UNKNOWN: mussel, question")
    static void sayOfTheLastMusselAndTheNext(Due d) {
        for (int many = 2; many <= 8; many++) {
            RopeVote x = Due.hung(ALIKE.substring(0, 6 * many - 1));
            d.is("say(0, 0, 1) of " + many, x.say(0, 0, 1), many);
            d.is("say(" + (many - 1) + ", 0, 1)", x.say(many - 1, 0, 1), many);
            for (int m : Edges.around(0, many - 1)) d.is("say(" + m + ", 0, 1)", x.say(m, 0, 1), Edges.UNKNOWN);
        }
        Edges.refused(d, "say(4, 0, 0)", Edges::busy, x -> x.say(Edges.BUSY, 0, 0), Edges.UNKNOWN);
    }

    @Holds(promise = 15, says = "UNKNOWN: mussel, question")
    static void sayOnTheLastQuestionAndTheNext(Due d) {
        d.is("say(1, 2, 0)", Edges.two().say(1, 2, 0), 1);
        for (int q : Edges.around(0, 2)) Edges.refused(d, "say(0, " + q + ", 0)", Edges::busy, x -> x.say(0, q, 0), Edges.UNKNOWN);
    }

    @Holds(promise = 15, says = "UNKNOWN: mussel, question")
    static void sayWithoutARope(Due d) {
        Edges.refused(d, "say(0, 0, 0)", Edges::none, x -> x.say(0, 0, 0), Edges.UNKNOWN);
    }

    @Holds(promise = 15, says = "OUTSIDE (it is not as told)")
    static void sayAboveBelowAndNoMore(Due d) {
        for (int what : Edges.around(0, 1)) Edges.refused(d, "say(0, 0, " + what + ")", Edges::busy, x -> x.say(0, 0, what), Edges.OUTSIDE);
    }

    @Holds(promise = 15, says = "of several the first as told by each call")
    static void sayWithSeveralWrong(Due d) {
        for (int what : new int[] {-1, 2}) {
            Edges.refused(d, "say(4, 0, " + what + ")", Edges::busy, x -> x.say(Edges.BUSY, 0, what), Edges.UNKNOWN);
            Edges.refused(d, "say(0, 3, " + what + ")", Edges::busy, x -> x.say(0, 3, what), Edges.UNKNOWN);
            Edges.refused(d, "say(0, 0, " + what + ") without a rope", Edges::none, x -> x.say(0, 0, what), Edges.UNKNOWN);
        }
    }

    @Holds(promise = 15, says = "(nobody is, if nothing is)")
    static void nobodyHasSay(Due d) {
        for (String text : new String[] {"m1000,m1000", "m1-00,e9-00", "c1+00,k9+00"}) {
            for (int m = 0; m < 2; m++) sayIs(d, Due.hung(text), m, 0, 1);
        }
    }

    @Holds(promise = 15, says = "if all that are FELT at the rail join one behind the other")
    static void whoIsNotFeltHasNoSay(Due d) {
        RopeVote x = Due.hung("m1+00,m9+00,m1+00");
        sayIs(d, x, 0, 0, 1);
        sayIs(d, x, 1, 1, 1);
        x.cut(1);
        sayIs(d, x, 0, 1, 1);
        sayIs(d, x, 1, 0, 1);
        sayIs(d, x, 2, 0, 1);
        x.cut(0);
        for (int m = 0; m < 3; m++) sayIs(d, x, m, 0, 1);
    }

    @Holds(promise = 15, says = "by whom that first comes to more than half of all that is PULLED for it")
    static void halfIsNotMoreThanHalf(Due d) {
        // 2 against 1 and 1: half is 2. Who has 2 joins first: not yet; second or third: it is the one.
        RopeVote x = Due.hung("m2+00,m1+00,m1+00");
        sayIs(d, x, 0, 2, 3);
        sayIs(d, x, 1, 1, 6);
        sayIs(d, x, 2, 1, 6);
        x.grow(0, 3);
        sayIs(d, x, 0, 1, 1);
        sayIs(d, x, 1, 0, 1);
        x.grow(0, 1);
        for (int m = 0; m < 3; m++) sayIs(d, x, m, 1, 3);
    }

    @Holds(promise = 15, says = "(who PULLS nothing, or against, adds nothing)")
    static void whoPullsAgainstTakesNothingAway(Due d) {
        RopeVote x = Due.hung("m1+00,m9-00,m1+00,m9000");
        for (int weight : new int[] {9, 1}) {
            x.grow(1, weight);
            sayIs(d, x, 0, 1, 2);
            sayIs(d, x, 1, 0, 1);
            sayIs(d, x, 2, 1, 2);
            sayIs(d, x, 3, 0, 1);
        }
    }

    @Holds(promise = 15, says = "what = 0 above, 1 below, in lowest terms (0 of 1)")
    static void sayOfEightAlike(Due d) {
        for (int m = 0; m < 8; m++) sayIs(d, Due.hung(ALIKE), m, 1, 8);
    }

    @Holds(promise = 15, says = "---- what would be")
    static void sayOnlyTells(Due d) {
        Edges.told(d, "say(0, 0, 0)", Edges::two, x -> x.say(0, 0, 0), 1);
        Edges.told(d, "say(1, 0, 0)", Edges::two, x -> x.say(1, 0, 0), 0);
    }

    // ---- promise 16

    private static void chanceIs(Due d, RopeVote x, int question, int tenths, int above, int below) {
        d.is("chance(" + question + ", " + tenths + ", 0)", x.chance(question, tenths, 0), above);
        d.is("chance(" + question + ", " + tenths + ", 1)", x.chance(question, tenths, 1), below);
    }

    @Holds(promise = 16, says = "UNKNOWN: question")
    static void chanceOfTheLastQuestionAndTheNext(Due d) {
        chanceIs(d, Edges.two(), 0, 0, 0, 1);
        chanceIs(d, Edges.two(), 2, 0, 1, 1);
        for (int q : Edges.around(0, 2)) Edges.refused(d, "chance(" + q + ", 0, 0)", Edges::busy, x -> x.chance(q, 0, 0), Edges.UNKNOWN);
    }

    @Holds(promise = 16, says = "UNKNOWN: question")
    static void chanceWithoutARope(Due d) {
        Edges.refused(d, "chance(0, 0, 0)", Edges::none, x -> x.chance(0, 0, 0), Edges.UNKNOWN);
    }

    @Holds(promise = 16, says = "OUTSIDE: tenths (0 to 10), what")
    static void theLastTenthsAndTheNext(Due d) {
        chanceIs(d, Due.hung(ALIKE), 0, 0, 1, 1);
        chanceIs(d, Due.hung(ALIKE), 0, 10, 0, 1);
        for (int tenths : Edges.around(0, 10)) {
            Edges.refused(d, "chance(0, " + tenths + ", 0)", Edges::busy, x -> x.chance(0, tenths, 0), Edges.OUTSIDE);
        }
    }

    @Holds(promise = 16, says = "OUTSIDE: tenths (0 to 10), what")
    static void chanceAboveBelowAndNoMore(Due d) {
        for (int what : Edges.around(0, 1)) {
            Edges.refused(d, "chance(0, 3, " + what + ")", Edges::busy, x -> x.chance(0, 3, what), Edges.OUTSIDE);
        }
    }

    @Holds(promise = 16, says = "of several the first as told by each call")
    static void chanceWithSeveralWrong(Due d) {
        Edges.refused(d, "chance(3, 11, 0)", Edges::busy, x -> x.chance(3, 11, 0), Edges.UNKNOWN);
        Edges.refused(d, "chance(-1, 0, 2)", Edges::busy, x -> x.chance(-1, 0, 2), Edges.UNKNOWN);
        Edges.refused(d, "chance(3, -1, -1)", Edges::busy, x -> x.chance(3, -1, -1), Edges.UNKNOWN);
        Edges.refused(d, "chance(0, 11, 2) without a rope", Edges::none, x -> x.chance(0, 11, 2), Edges.UNKNOWN);
        Edges.refused(d, "chance(0, 11, 2)", Edges::busy, x -> x.chance(0, 11, 2), Edges.OUTSIDE);
    }

    @Holds(promise = 16, says = "what = 0 above, 1 below, in lowest terms (0 of 1)")
    static void theGreatestPartsOfEight(Due d) {
        chanceIs(d, Due.hung(ALIKE), 0, 1, 99999999, 100000000);
        chanceIs(d, Due.hung(ALIKE), 0, 9, 56953279, 100000000);
        chanceIs(d, Due.hung(ALIKE), 0, 5, 255, 256);
        for (int tenths = 0; tenths <= 10; tenths++) {
            chanceIs(d, Due.hung(ALIKE), 1, tenths, 0, 1);
            chanceIs(d, Due.hung(ALIKE), 2, tenths, 0, 1);
        }
    }

    @Holds(promise = 16, says = "if each MUSSEL that is FELT, by itself, lets go with so many tenths of 10")
    static void chanceOfNobodyAndOfOne(Due d) {
        RopeVote x = Due.hung(ALIKE);
        x.cut(1);
        for (int tenths = 0; tenths <= 10; tenths++) {
            int[] above = {1, 9, 4, 7, 3, 1, 2, 3, 1, 1, 0};
            int[] below = {1, 10, 5, 10, 5, 2, 5, 10, 5, 10, 1};
            chanceIs(d, x, 0, tenths, above[tenths], below[tenths]);
        }
        x.cut(0);
        for (int tenths = 0; tenths <= 10; tenths++) chanceIs(d, x, 0, tenths, 0, 1);
    }

    @Holds(promise = 16, says = "it is CARRIED, if that is more than 0, LOST, if less, else it HANGS")
    static void whatHangsIsNotCarried(Due d) {
        RopeVote x = Due.hung("m3+00,m3-00");
        chanceIs(d, x, 0, 0, 0, 1);
        chanceIs(d, x, 0, 5, 1, 4);
        x.grow(0, 4);
        chanceIs(d, x, 0, 0, 1, 1);
        chanceIs(d, x, 0, 5, 1, 2);
    }

    @Holds(promise = 16, says = "---- what would be")
    static void chanceOnlyTells(Due d) {
        Edges.told(d, "chance(0, 0, 0)", Edges::two, x -> x.chance(0, 0, 0), 0);
        Edges.told(d, "chance(2, 3, 1)", Edges::two, x -> x.chance(2, 3, 1), 10);
    }

    // ---- promise 17

    private static void cutsAre(Due d, RopeVote x, int out, int few, int which) {
        d.is("cuts(0, " + out + ", 0)", x.cuts(0, out, 0), few);
        d.is("cuts(0, " + out + ", 1)", x.cuts(0, out, 1), which);
    }

    @Holds(promise = 17, says = "UNKNOWN: question")
    static void cutsOfTheLastQuestionAndTheNext(Due d) {
        d.is("cuts(0, -1, 0)", Edges.two().cuts(0, -1, 0), 0);
        d.is("cuts(2, 1, 0)", Edges.two().cuts(2, 1, 0), 0);
        for (int q : Edges.around(0, 2)) Edges.refused(d, "cuts(" + q + ", 0, 0)", Edges::busy, x -> x.cuts(q, 0, 0), Edges.UNKNOWN);
        Edges.refused(d, "cuts(0, 0, 0) without a rope", Edges::none, x -> x.cuts(0, 0, 0), Edges.UNKNOWN);
    }

    @Holds(promise = 17, says = "OUTSIDE: out (1, 0, -1), what")
    static void cutsForTheLastOutcomeAndTheNext(Due d) {
        for (int out : Edges.around(-1, 1)) Edges.refused(d, "cuts(0, " + out + ", 0)", Edges::busy, x -> x.cuts(0, out, 0), Edges.OUTSIDE);
    }

    @Holds(promise = 17, says = "OUTSIDE: out (1, 0, -1), what")
    static void cutsHowFewWhichAndNoMore(Due d) {
        for (int what : Edges.around(0, 1)) Edges.refused(d, "cuts(0, 0, " + what + ")", Edges::busy, x -> x.cuts(0, 0, what), Edges.OUTSIDE);
    }

    @Holds(promise = 17, says = "of several the first as told by each call")
    static void cutsWithSeveralWrong(Due d) {
        Edges.refused(d, "cuts(3, 2, 0)", Edges::busy, x -> x.cuts(3, 2, 0), Edges.UNKNOWN);
        Edges.refused(d, "cuts(-1, 0, 2)", Edges::busy, x -> x.cuts(-1, 0, 2), Edges.UNKNOWN);
        Edges.refused(d, "cuts(0, -2, -1) without a rope", Edges::none, x -> x.cuts(0, -2, -1), Edges.UNKNOWN);
        Edges.refused(d, "cuts(0, -2, -1)", Edges::busy, x -> x.cuts(0, -2, -1), Edges.OUTSIDE);
    }

    @Holds(promise = 17, says = "by how few THREADS more, CUT (of whole ones), it does: how few; which, as bits")
    static void noCutIsNeeded(Due d) {
        cutsAre(d, Due.hung("m2+00,m1-00"), 1, 0, 0);
        cutsAre(d, Due.hung("m1+00,m1-00"), 0, 0, 0);
        cutsAre(d, Due.hung("m1+00,m2-00"), -1, 0, 0);
        RopeVote x = Edges.eight();
        x.cut(0);
        cutsAre(d, x, 0, 0, 0);
    }

    @Holds(promise = 17, says = "of like ones the least; none")
    static void noCutHelps(Due d) {
        cutsAre(d, Due.hung("m2+00,m1-00"), -1, Edges.NONE, Edges.NONE);
        cutsAre(d, Due.hung("m1000,m1000"), 1, Edges.NONE, Edges.NONE);
        RopeVote x = Due.hung("m1-00,m2+00");
        cutsAre(d, x, -1, 1, 2);
        x.cut(0);
        cutsAre(d, x, -1, Edges.NONE, Edges.NONE);
        cutsAre(d, x, 1, Edges.NONE, Edges.NONE);
        Edges.told(d, "cuts(0, 1, 0)", () -> Due.hung("m1000,m1000"), y -> y.cuts(0, 1, 0), Edges.NONE);
    }

    @Holds(promise = 17, says = "of like ones the least; none")
    static void theFirstThreadAndTheLast(Due d) {
        cutsAre(d, Due.hung(ALIKE), 0, 1, 1);
        cutsAre(d, Due.hung("m1+00,m1+00,m1+00,m1+00,m1+00,m1+00,m1+00,m9-00"), 1, 1, 2);
        cutsAre(d, Due.hung("m9-00,m1+00,m1+00,m1+00,m1+00,m1+00,m5+00,m9-00"), 1, 1, 128);
    }

    @Holds(promise = 17, says = "(of whole ones)")
    static void whatIsCutIsNotCutAgain(Due d) {
        RopeVote x = Due.hung("m1-00,m2+00,m9-00,m9+00");
        cutsAre(d, x, -1, 1, 2);
        x.cut(2);
        cutsAre(d, x, 1, 0, 0);
        cutsAre(d, x, -1, 1, 2);
        cutsAre(d, x, 0, 1, 1);
    }

    @Holds(promise = 17, says = "---- what would be")
    static void cutsOnlyTell(Due d) {
        Edges.told(d, "cuts(0, 1, 1)", Edges::two, x -> x.cuts(0, 1, 1), 2);
        Edges.told(d, "cuts(1, 1, 1)", Edges::two, x -> x.cuts(1, 1, 1), Edges.NONE);
    }

    // ---- promise 18

    private static RopeVote turnedTwenty() {
        RopeVote x = Due.hung("m1+00,m2-00,m4+00");
        for (int time = 1; time <= 20; time++) x.fewTurns(0, 1, 0);
        return x;
    }

    private static void turnsAre(Due d, RopeVote x, int out, int few, int which) {
        d.is("fewTurns(0, " + out + ", 0)", x.fewTurns(0, out, 0), few);
        d.is("fewTurns(0, " + out + ", 1)", x.fewTurns(0, out, 1), which);
    }

    @Holds(promise = 18, says = "STATE: fewTurns() was done 20 times")
    static void theLastFewTurnsAndTheNext(Due d) {
        RopeVote x = Edges.two();
        for (int time = 1; time <= 20; time++) {
            d.is("fewTurns(0, -1, 0), time " + time, x.fewTurns(0, -1, 0), 0);
            d.is("count(11)", x.count(11), time);
        }
        d.is("fewTurns(0, -1, 0), time 21", x.fewTurns(0, -1, 0), Edges.STATE);
        d.is("fewTurns(1, 1, 1), time 22", x.fewTurns(1, 1, 1), Edges.STATE);
        d.is("count(11)", x.count(11), 20);
        Edges.refused(d, "fewTurns(0, 1, 0)", WouldEdges::turnedTwenty, y -> y.fewTurns(0, 1, 0), Edges.STATE);
    }

    @Holds(promise = 18, says = "STATE: fewTurns() was done 20 times")
    static void twentyTimesGoOnPastRopesAndImages(Due d) {
        RopeVote x = Edges.two();
        x.image();
        for (int time = 1; time <= 20; time++) x.fewTurns(0, 1, 0);
        x.restore();
        d.is("behind restore()", x.fewTurns(0, 1, 0), Edges.STATE);
        Due.write(x, Edges.TWO);
        x.rope();
        d.is("on another rope", x.fewTurns(0, 1, 0), Edges.STATE);
        d.is("count(11)", x.count(11), 20);
    }

    @Holds(promise = 18, says = "they change nothing")
    static void refusedFewTurnsAreNotDone(Due d) {
        Edges.refused(d, "fewTurns(3, 0, 0)", Edges::busy, x -> x.fewTurns(3, 0, 0), Edges.UNKNOWN);
        Edges.refused(d, "fewTurns(0, 2, 0)", Edges::busy, x -> x.fewTurns(0, 2, 0), Edges.OUTSIDE);
        Edges.refused(d, "fewTurns(0, 0, 2)", Edges::busy, x -> x.fewTurns(0, 0, 2), Edges.OUTSIDE);
        RopeVote x = Edges.two();
        for (int time = 1; time <= 25; time++) x.fewTurns(3, 0, 0);
        for (int time = 1; time <= 25; time++) x.fewTurns(0, 2, 0);
        d.is("count(11)", x.count(11), 0);
        d.is("fewTurns(0, -1, 0)", x.fewTurns(0, -1, 0), 0);
    }

    @Holds(promise = 18, says = "UNKNOWN: question")
    static void turnsOfTheLastQuestionAndTheNext(Due d) {
        d.is("fewTurns(0, -1, 0)", Edges.two().fewTurns(0, -1, 0), 0);
        d.is("fewTurns(2, 1, 0)", Edges.two().fewTurns(2, 1, 0), 0);
        for (int q : Edges.around(0, 2)) {
            Edges.refused(d, "fewTurns(" + q + ", 0, 0)", Edges::busy, x -> x.fewTurns(q, 0, 0), Edges.UNKNOWN);
        }
        Edges.refused(d, "fewTurns(0, 0, 0) without a rope", Edges::none, x -> x.fewTurns(0, 0, 0), Edges.UNKNOWN);
    }

    @Holds(promise = 18, says = "OUTSIDE: out (1, 0, -1), what")
    static void turnsForTheLastOutcomeAndTheNext(Due d) {
        for (int out : Edges.around(-1, 1)) {
            Edges.refused(d, "fewTurns(0, " + out + ", 0)", Edges::busy, x -> x.fewTurns(0, out, 0), Edges.OUTSIDE);
        }
    }

    @Holds(promise = 18, says = "OUTSIDE: out (1, 0, -1), what")
    static void turnsHowFewWhichAndNoMore(Due d) {
        for (int what : Edges.around(0, 1)) {
            Edges.refused(d, "fewTurns(0, 0, " + what + ")", Edges::busy, x -> x.fewTurns(0, 0, what), Edges.OUTSIDE);
        }
    }

    @Holds(promise = 18, says = "of several the first as told by each call")
    static void fewTurnsWithSeveralWrong(Due d) {
        Edges.refused(d, "fewTurns(3, 2, 2)", Edges::busy, x -> x.fewTurns(3, 2, 2), Edges.UNKNOWN);
        Edges.refused(d, "fewTurns(0, 2, 2) without a rope", Edges::none, x -> x.fewTurns(0, 2, 2), Edges.UNKNOWN);
        Edges.refused(d, "fewTurns(3, 0, 0), 20 done", WouldEdges::turnedTwenty, x -> x.fewTurns(3, 0, 0), Edges.UNKNOWN);
        Edges.refused(d, "fewTurns(0, 2, 0), 20 done", WouldEdges::turnedTwenty, x -> x.fewTurns(0, 2, 0), Edges.OUTSIDE);
        Edges.refused(d, "fewTurns(0, 0, 2), 20 done", WouldEdges::turnedTwenty, x -> x.fewTurns(0, 0, 2), Edges.OUTSIDE);
        Edges.refused(d, "fewTurns(3, 2, 2), 20 done", WouldEdges::turnedTwenty, x -> x.fewTurns(3, 2, 2), Edges.UNKNOWN);
    }

    @Holds(promise = 18, says = "of like ones the least; none")
    static void nobodyCanTurnIt(Due d) {
        RopeVote x = Edges.eight();
        x.cut(0);
        turnsAre(d, x, 1, Edges.NONE, Edges.NONE);
        turnsAre(d, x, -1, Edges.NONE, Edges.NONE);
        turnsAre(d, x, 0, 0, 0);
        RopeVote knots = Due.hung("k9+00,k9+00");
        turnsAre(d, knots, 1, Edges.NONE, Edges.NONE);
        d.is("one that finds none is done, too: count(11)", knots.count(11), 2);
    }

    @Holds(promise = 18, says = "by how few MUSSELS that LEAN otherwise then on it (each any way), it does")
    static void nobodyAndAllMustTurn(Due d) {
        turnsAre(d, Due.hung(ALIKE), 1, 0, 0);
        RopeVote x = Due.hung("m1+00,m1+00,m3+00");
        turnsAre(d, x, -1, 1, 4);
        turnsAre(d, x, 0, 2, 5);
        RopeVote all = Due.hung("m1+00,m2+00");
        turnsAre(d, all, 0, 2, 3);
        turnsAre(d, all, -1, 1, 2);
        // From 8 to nothing: four turned over; less than nothing: five; the least bits of all.
        turnsAre(d, Due.hung(ALIKE), 0, 4, 15);
        turnsAre(d, Due.hung(ALIKE), -1, 5, 31);
    }

    @Holds(promise = 18, says = "of like ones the least; none")
    static void theLastMusselAlone(Due d) {
        turnsAre(d, Due.hung("m1+00,m1-00,m1+00,m1-00,m1+00,m1-00,m1+00,m2-00"), 0, 1, 2);
        turnsAre(d, Due.hung("k1+00,k1000,k1000,k1000,k1000,k1000,k1000,m2-00"), 1, 1, 128);
    }

    @Holds(promise = 18, says = "---- what would be")
    static void fewTurnsTurnNobody(Due d) {
        RopeVote x = Edges.busy();
        RopeVote twin = Edges.busy();
        x.fewTurns(0, -1, 0);
        twin.fewTurns(1, 0, 1);
        Edges.same(d, "fewTurns() turns nobody, whatever it is asked", x, twin);
    }

    // ---- promise 19

    private static void settleIs(Due d, RopeVote x, int many, int first) {
        d.is("settle(0)", x.settle(0), many);
        d.is("settle(1)", x.settle(1), first);
    }

    @Holds(promise = 19, says = "OUTSIDE; STATE: no ROPE.")
    static void settleHowManyFirstAndNoMore(Due d) {
        for (int what : Edges.around(0, 1)) Edges.refused(d, "settle(" + what + ")", Edges::busy, x -> x.settle(what), Edges.OUTSIDE);
    }

    @Holds(promise = 19, says = "OUTSIDE; STATE: no ROPE.")
    static void nothingSettlesWithoutARope(Due d) {
        Edges.refused(d, "settle(0)", Edges::none, x -> x.settle(0), Edges.STATE);
        Edges.refused(d, "settle(1)", Edges::none, x -> x.settle(1), Edges.STATE);
    }

    @Holds(promise = 19, says = "of several the first as told by each call")
    static void settleWithSeveralWrong(Due d) {
        for (int what : Edges.around(0, 1)) Edges.refused(d, "settle(" + what + ")", Edges::none, x -> x.settle(what), Edges.OUTSIDE);
    }

    @Holds(promise = 19, says = "behind how many TIDES, the fewest (1 at least)")
    static void whatHasSettledSettlesBehindOne(Due d) {
        settleIs(d, Due.hung(ALIKE), 1, 0);
        settleIs(d, Due.hung("c1+-0,c1-+0"), 1, 0);
        settleIs(d, Due.hung("m1000,m1000"), 1, 0);
    }

    @Holds(promise = 19, says = "behind how many they did so first (0: as now)")
    static void theLongestSettling(Due d) {
        for (int many = 2; many <= 8; many++) {
            String text = "m1+00,m1000,m1000,m1000,m1000,m1000,m1000,m1000".substring(0, 6 * many - 1);
            settleIs(d, Due.hung(text), many, many - 1);
        }
    }

    @Holds(promise = 19, says = "all MUSSELS LEAN on all QUESTIONS as they did behind fewer TIDES")
    static void eachQuestionAndEachMusselCounts(Due d) {
        // Of eight only one goes along, all others stay: it alone tells that the leans are not as before.
        for (int m = 0; m < 8; m++) {
            for (int q = 0; q < 3; q++) {
                String[] parts = "c1+++,c1+++,c1+++,c1+++,c1+++,c1+++,c1+++,c1+++".split(",");
                parts[m] = "m1" + "+++".substring(0, q) + "0" + "+++".substring(q + 1);
                settleIs(d, Due.hung(String.join(",", parts)), 2, 1);
            }
        }
        settleIs(d, Due.hung("m100+,m1000"), 2, 1);
        settleIs(d, Due.hung("m1+++,m1+++,m1+++,m1+++,m1+++,m1+++,m1+++,m1++0"), 2, 1);
        RopeVote x = Due.hung("m1+00,m1000");
        x.cut(0);
        d.is("felt or not, settle(0)", x.settle(0), 2);
    }

    @Holds(promise = 19, says = "---- what would be")
    static void settleOnlyTells(Due d) {
        Edges.told(d, "settle(0)", Edges::two, x -> x.settle(0), 2);
        Edges.told(d, "settle(1)", Edges::two, x -> x.settle(1), 1);
    }
}
