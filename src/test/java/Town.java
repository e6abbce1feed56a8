/** One rope of all kinds on which the sentences of the document are worked out by hand. */
final class Town {
    static final String ROPE = "m4+0-,e3-+0,c2+-+,k5-0+,s6+-0,m1-++";
    static final int SIZE = 6;
    static final int[] KINDS = {0, 1, 2, 3, 4, 0};
    static final int[] WEIGHTS = {4, 3, 2, 5, 6, 1};
    /** By question, by mussel. */
    static final int[][] LEANS = {{1, -1, 1, -1, 1, -1}, {0, 1, -1, 0, -1, 1}, {-1, 0, 1, 1, 0, 1}};
    /**
     * The knot (3) is pulled for question 0 and against 1, on 2 its neighbours do not agree; the swayed one (4) is pulled
     * against question 0 and for 2, on 1 it goes by itself.
     */
    static final int[][] PULLS = {{4, -6, -2, 5, -6, -1}, {0, 6, 2, -5, -6, 1}, {-4, 0, -2, 0, 6, 1}};
    static final int[] SUMS = {-6, -2, 1};
    /** A second tide changes nothing: it has settled. */
    static final int[][] LEANS_BEHIND_A_TIDE = {{1, 1, 1, 1, -1, -1}, {1, 1, -1, -1, -1, 1}, {-1, 0, 1, 1, 1, 1}};

    private Town() {
    }

    static RopeVote hung() {
        return Due.hung(ROPE);
    }

    static void leansAre(Due d, String when, RopeVote x, int[][] leans) {
        for (int q = 0; q < 3; q++) {
            for (int m = 0; m < leans[q].length; m++) {
                d.is(when + ", mussel(" + m + ", " + (2 + q) + ")", x.mussel(m, 2 + q), leans[q][m]);
            }
        }
    }

    static void pullsAre(Due d, String when, RopeVote x, int question, int... pulls) {
        for (int m = 0; m < pulls.length; m++) {
            d.is(when + ", mussel(" + m + ", " + (10 + question) + ")", x.mussel(m, 10 + question), 100 + pulls[m]);
        }
    }

    static void saysAre(Due d, RopeVote x, int question, int[]... parts) {
        for (int m = 0; m < parts.length; m++) {
            d.is("say(" + m + ", " + question + ", 0)", x.say(m, question, 0), parts[m][0]);
            d.is("say(" + m + ", " + question + ", 1)", x.say(m, question, 1), parts[m][1]);
        }
    }

    static void chanceIs(Due d, RopeVote x, int tenths, int above, int below) {
        d.is("chance(0, " + tenths + ", 0)", x.chance(0, tenths, 0), above);
        d.is("chance(0, " + tenths + ", 1)", x.chance(0, tenths, 1), below);
    }

    static void cutsAre(Due d, RopeVote x, int question, int out, int few, int bits) {
        d.is("cuts(" + question + ", " + out + ", 0)", x.cuts(question, out, 0), few);
        d.is("cuts(" + question + ", " + out + ", 1)", x.cuts(question, out, 1), bits);
    }

    static void turnsAre(Due d, RopeVote x, int question, int out, int few, int bits) {
        d.is("fewTurns(" + question + ", " + out + ", 0)", x.fewTurns(question, out, 0), few);
        d.is("fewTurns(" + question + ", " + out + ", 1)", x.fewTurns(question, out, 1), bits);
    }

    static void tidesAre(Due d, RopeVote x, int times, int seed, int... told) {
        for (int what = 0; what <= 2; what++) {
            d.is("tides(" + times + ", " + seed + ", " + what + ")", x.tides(times, seed, what), told[what]);
        }
    }
}
