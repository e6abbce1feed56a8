/** Promise by promise: ordinary inputs, the edges that the document names, wrong inputs, worked out by hand. */
public final class PromisesTest {
    private static final Due DUE = new Due();
    private static final int NONE = -1, UNKNOWN = -101, OUTSIDE = -102, STATE = -103, FULL = -104;
    private static final int LEAST = Integer.MIN_VALUE, MOST = Integer.MAX_VALUE;

    private static void due(String call, long got, long want) {
        DUE.is(call, got, want);
    }

    /** The object is as it was. */
    private static void unchanged(String call, RopeVote x, long before) {
        due(call + ": a refusal changes nothing, digest()", x.digest(), before);
    }

    private static long mixed(long h, int... numbers) {
        long all = h;
        for (int n : numbers) all = 31 * all + n;
        return all;
    }

    private static void promise1() {
        RopeVote x = new RopeVote();
        for (int what = 0; what <= 11; what++) due("1 new: count(" + what + ")", x.count(what), 0);
        due("1 new: mussel(0, 0)", x.mussel(0, 0), UNKNOWN);
        due("1 new: question(0, 0)", x.question(0, 0), UNKNOWN);
        due("1 NONE", RopeVote.NONE, NONE);
        due("1 UNKNOWN", RopeVote.UNKNOWN, UNKNOWN);
        due("1 OUTSIDE", RopeVote.OUTSIDE, OUTSIDE);
        due("1 STATE", RopeVote.STATE, STATE);
        due("1 FULL", RopeVote.FULL, FULL);
    }

    private static void promise2() {
        RopeVote x = new RopeVote();
        for (int code : new int[] {31, 127, 0, -1, 256 + 109, LEAST, MOST}) due("2 letter(" + code + ")", x.letter(code), OUTSIDE);
        due("2 letter(32)", x.letter(32), 1);
        due("2 letter(126)", x.letter(126), 2);
        for (int many = 3; many <= 50; many++) due("2 letter, the " + many + "th", x.letter(109), many);
        due("2 letter above 50", x.letter(109), FULL);
        due("2 letter, OUTSIDE ahead of FULL", x.letter(31), OUTSIDE);
        due("2 count(9)", x.count(9), 50);
    }

    private static void promise3() {
        RopeVote x = new RopeVote();
        due("3 blank() of an empty page", x.blank(), 0);
        Due.write(x, "m1+");
        due("3 blank()", x.blank(), 3);
        due("3 blank() again", x.blank(), 0);
        due("3 letter behind blank()", x.letter(109), 1);
        for (int i = 1; i < 50; i++) x.letter(48);
        due("3 blank() of a full page", x.blank(), 50);
    }

    private static void faultOf(String text, int want) {
        RopeVote x = new RopeVote();
        Due.write(x, text);
        due("4 fault() of '" + text + "'", x.fault(), want);
        due("4 fault() keeps the page", x.count(9), text.length());
    }

    private static void promise4() {
        faultOf("", 0);
        for (String kind : new String[] {"m", "e", "c", "k", "s"}) faultOf(kind + "1+-0", 5);
        for (String kind : new String[] {"a", "M", "1", ",", " "}) faultOf(kind + "1+-0", 0);
        faultOf("m1", 2);
        faultOf("m9", 2);
        faultOf("m0", 1);
        faultOf("m:", 1);
        faultOf("mm", 1);
        faultOf("m1+", 3);
        faultOf("m11", 2);
        faultOf("m1+,", 3);
        faultOf("m1+-*", 4);
        faultOf("m1+-0m", 5);
        faultOf("m1+-0,", 6);
        faultOf("m1+-0,,", 6);
        faultOf("m1+-0,e2000", 11);
        String eight = "m1+++,m1+++,m1+++,m1+++,m1+++,m1+++,m1+++,m1+++";
        faultOf(eight, 47);
        faultOf(eight + ",", 47);
        faultOf(eight + "+", 47);
        faultOf(eight + ",m1", 47);
    }

    private static void notRope(String text) {
        RopeVote x = new RopeVote();
        Due.write(x, text);
        long before = x.digest();
        due("5 rope() of '" + text + "'", x.rope(), STATE);
        unchanged("5 rope() of '" + text + "'", x, before);
    }

    private static void promise5() {
        for (String text : new String[] {"", "m1+-0", "m1+-0,", "m1+-0,e2", "m1+-0,e2++", "m1+-0,e2+++,", "m1+-0;e2+++",
            "m0+-0,e2+++", "x1+-0,e2+++", "m1+-0,e2+++ ", "m1+++,m1+++,m1+++,m1+++,m1+++,m1+++,m1+++,m1+++,"}) notRope(text);
        RopeVote x = new RopeVote();
        Due.write(x, "m1+-0,s9-0+");
        due("5 rope() of two", x.rope(), 2);
        due("5 the page is empty then", x.count(9), 0);
        due("5 count(10)", x.count(10), 1);
        due("5 rope() of the empty page", x.rope(), STATE);
        due("5 the rope stays at a refusal", x.count(0), 2);
        x.cut(1);
        x.ask(0);
        x.tide();
        x.see(0, 0, 200);
        x.image();
        x.fewTurns(0, 0, 0);
        Due.write(x, "m1+++,e2+++,c3+++,k4+++,s5+++,m6+++,m7+++,m8+++");
        due("5 rope() of eight", x.rope(), 8);
        for (int what : new int[] {2, 4, 5, 6, 8, 9}) due("5 all that was is gone: count(" + what + ")", x.count(what), 0);
        due("5 count(1)", x.count(1), 8);
        due("5 count(3)", x.count(3), 36);
        due("5 count(10) of two ropes", x.count(10), 2);
        due("5 count(11) is of the object, not of the rope", x.count(11), 1);
        due("5 no image of another rope", x.restore(), STATE);
        Due.write(x, "k4000,k4000");
        due("5 a shorter rope", x.rope(), 2);
        due("5 the longer one is gone: mussel(2, 0)", x.mussel(2, 0), UNKNOWN);
        due("5 its weights are gone: count(3)", x.count(3), 8);
    }

    private static void promise6() {
        RopeVote x = Due.hung("m4+0-,e3+-0,c2-+0,k7000,s5+-+,m1+++");
        int[][] told = {
            {0, 4, 1, 0, -1, 1, 1}, {1, 3, 1, -1, 0, 1, 1}, {2, 2, -1, 1, 0, 1, 1},
            {3, 7, 0, 0, 0, 1, 1}, {4, 5, 1, -1, 1, 1, 1}, {0, 1, 1, 1, 1, 1, 1}};
        for (int m = 0; m < 6; m++) {
            for (int what = 0; what <= 6; what++) due("6 mussel(" + m + ", " + what + ")", x.mussel(m, what), told[m][what]);
        }
        int[][] pulls = {{4, 0, -4}, {6, -6, 0}, {2, -2, 0}, {0, 0, 0}, {5, -5, 5}, {1, 1, 1}};
        for (int m = 0; m < 6; m++) {
            for (int q = 0; q < 3; q++) due("6 mussel(" + m + ", " + (10 + q) + ")", x.mussel(m, 10 + q), 100 + pulls[m][q]);
        }
        for (int what : new int[] {-1, 8, 9, 13, 19, 23, LEAST, MOST}) due("6 mussel(0, " + what + ")", x.mussel(0, what), OUTSIDE);
        for (int m : new int[] {-1, 6, 8, LEAST, MOST}) {
            due("6 mussel(" + m + ", 0)", x.mussel(m, 0), UNKNOWN);
            due("6 UNKNOWN ahead of OUTSIDE: mussel(" + m + ", 99)", x.mussel(m, 99), UNKNOWN);
        }
        x.cut(2);
        due("6 ahead of a cut: felt", x.mussel(1, 5), 1);
        due("6 behind a cut: not felt", x.mussel(2, 5), 0);
        due("6 further behind: not felt", x.mussel(5, 5), 0);
        due("6 a cut thread", x.mussel(2, 6), 0);
        due("6 a whole thread behind a cut", x.mussel(3, 6), 1);
        due("6 what is not felt pulls all the same", x.mussel(5, 10), 101);
        knots();
        asking();
    }

    private static void knots() {
        RopeVote x = Due.hung("m1+-0,k9-+0,m1+-0,s8-+-,m1+-0,k6+++");
        due("6 a knot, both for, against its own lean", x.mussel(1, 10), 109);
        due("6 a knot, both against", x.mussel(1, 11), 91);
        due("6 a knot, both neither", x.mussel(1, 12), 100);
        due("6 a swayed one, both for", x.mussel(3, 10), 108);
        due("6 a swayed one, both against", x.mussel(3, 11), 92);
        due("6 a swayed one, both neither: as a mussel", x.mussel(3, 12), 92);
        due("6 a knot at the deep end has one neighbour", x.mussel(5, 10), 100);
        x.turn(2, 0, -1);
        due("6 a knot, pulled both ways", x.mussel(1, 10), 100);
        due("6 a swayed one, pulled both ways: as a mussel", x.mussel(3, 10), 92);
        x.turn(2, 0, 1);
        x.cut(1);
        due("6 a knot, cut ahead", x.mussel(1, 10), 100);
        x.tie(1);
        x.cut(2);
        due("6 a knot, cut behind", x.mussel(1, 10), 100);
        due("6 a swayed one behind the cut, both for", x.mussel(3, 10), 108);
        x.cut(3);
        due("6 a swayed one, cut ahead: as a mussel", x.mussel(3, 10), 92);
        RopeVote y = Due.hung("k9+++,m1+++");
        due("6 a knot at the rail has one neighbour", y.mussel(0, 10), 100);
    }

    private static void asking() {
        RopeVote x = Due.hung("m1+00,k2000,m3+00");
        due("6 all leans at first", x.mussel(0, 20), 7);
        due("6 ask of what pulls: the least question", x.mussel(0, 7), 0);
        due("6 a knot at work changes no sum by its lean", x.mussel(1, 7), NONE);
        // Mussel 0 for: 1 + 2 + 3; neither: 3; against: 2.
        x.see(0, 0, 203);
        due("6 neither is left", x.mussel(0, 20), 2);
        due("6 one lean left: another question is better", x.mussel(0, 7), 1);
        due("6 other mussels are not told by it", x.mussel(2, 20), 7);
        due("6 nor other questions", x.mussel(0, 21), 7);
        x.see(0, 0, 202);
        due("6 none is left, if what is seen does not agree", x.mussel(0, 20), 0);
        x.cut(0);
        due("6 not felt: sums tell nothing", x.mussel(2, 7), NONE);
        due("6 leans are told by the sums as they are now", x.mussel(0, 20), 0);
        x.forget();
        x.see(2, 1, 200);
        due("6 not felt, the sum agrees: all leans are left", x.mussel(2, 21), 7);
        // A swayed one between two for pulls that way whatever it leans on 0: only on 1 is it felt.
        RopeVote y = Due.hung("m1+++,s2+-0,m1+0+");
        due("6 ask, where only one question tells", y.mussel(1, 7), 1);
        // A knot of weight 2 is moved by its neighbour 0: for 1 + 2, neither 0, against -1: all three differ.
        RopeVote z = Due.hung("m1+00,k2000,m1+00");
        due("6 bits, for", seenThen(z, 0, 0, 204), 1);
        due("6 bits, neither", seenThen(z, 0, 0, 201), 2);
        due("6 bits, against", seenThen(z, 0, 0, 200), 4);
        RopeVote w = Due.hung("k1000,m1+00,k1+00");
        due("6 ask, a knot at the deep end tells nothing of itself", w.mussel(2, 7), NONE);
        fewestAtWorst();
    }

    /** The question that leaves fewest leans at worst is better than a lesser number. */
    private static void fewestAtWorst() {
        // Knot 1 is felt by knot 2 alone, which pulls 4 on 0 only if 1 and 3 lean for.
        RopeVote x = Due.hung("c1000,k1000,k4000,m1+0+");
        due("6 on 0 two leans feel alike", seenThen(x, 1, 0, 201), 6);
        due("6 on 0 the third does not", seenThen(x, 1, 0, 205), 1);
        due("6 ask, the first that helps at all", x.mussel(1, 7), 0);
        RopeVote y = Due.hung("k1000,m1000,k4000,m1+0+");
        due("6 ask, all three differ on each: the least", y.mussel(1, 7), 0);
        RopeVote z = Due.hung("m1+00,s1000,k4000,m1+0+");
        // Swayed 1 with 0 for, 2 neither: pulls as it leans: 1, 0, -1 (and 4 more for): all differ on 0.
        due("6 ask of a swayed one", z.mussel(1, 7), 0);
        // 1 between two for on 0: its own pull is 1 however it leans; knot 2 pulls 4 if it leans for: two alike.
        z.turn(2, 0, 1);
        due("6 on 0 two are alike", seenThen(z, 1, 0, 203), 6);
        due("6 ask, where fewest are left at worst, not the first that helps", z.mussel(1, 7), 1);
        z.see(1, 1, 200);
        due("6 one is left on 1", z.mussel(1, 21), 2);
        due("6 then 2", z.mussel(1, 7), 2);
        z.see(1, 2, 201);
        due("6 then 0, where two are left at worst of three", z.mussel(1, 7), 0);
        z.see(1, 0, 203);
        due("6 two are left that feel alike: none", z.mussel(1, 7), NONE);
    }

    private static int seenThen(RopeVote x, int mussel, int question, int sum) {
        x.see(mussel, question, sum);
        int bits = x.mussel(mussel, 20 + question);
        x.forget();
        return bits;
    }

    private static void promise7() {
        RopeVote x = Due.hung("m1000,e1000,c1000,k1000,s1000");
        String[] are = {"10000", "11000", "10100", "10010", "10011"};
        for (int m = 0; m < 5; m++) {
            for (int k = 0; k < 5; k++) due("7 as(" + m + ", " + k + ")", x.as(m, k), are[m].charAt(k) == '1' ? m : NONE);
        }
        for (int k : new int[] {-1, 5, LEAST, MOST}) due("7 as(0, " + k + ")", x.as(0, k), OUTSIDE);
        for (int m : new int[] {-1, 5, LEAST, MOST}) due("7 as(" + m + ", 9)", x.as(m, 9), UNKNOWN);
        due("7 as without a rope", new RopeVote().as(0, 0), UNKNOWN);
    }

    private static void promise8() {
        RopeVote x = Due.hung("e9+-0,e9+-0,e9+-0,e9+-0,e9+-0,e9+-0,e9+-0,e9+-+");
        int[][] told = {{344, 1, 0, 0, 8, 0}, {56, -1, 0, 0, 0, 8}, {218, 1, 0, 0, 1, 0}};
        for (int q = 0; q < 3; q++) {
            for (int what = 0; what <= 5; what++) due("8 question(" + q + ", " + what + ")", x.question(q, what), told[q][what]);
        }
        x.cut(7);
        due("8 the sum without what is behind a cut", x.question(2, 0), 200);
        due("8 it hangs", x.question(2, 1), 0);
        due("8 leans are counted, felt or not", x.question(2, 4), 1);
        for (int q : new int[] {-1, 3, LEAST, MOST}) due("8 question(" + q + ", 9)", x.question(q, 9), UNKNOWN);
        for (int what : new int[] {-1, 6, LEAST, MOST}) due("8 question(0, " + what + ")", x.question(0, what), OUTSIDE);
        for (int q = 0; q < 3; q++) due("8 question without a rope", new RopeVote().question(q, 0), UNKNOWN);
    }

    private static void promise9() {
        RopeVote x = Due.hung("m1+-0,m1+-0");
        for (int time = 1; time <= 99; time++) due("9 ask(0), time " + time, x.ask(0), 1);
        long before = x.digest();
        due("9 ask(0) the 100th time", x.ask(0), FULL);
        unchanged("9 ask(0)", x, before);
        due("9 lost", x.ask(1), 2);
        due("9 hangs", x.ask(2), 0);
        due("9 asked", x.question(0, 2), 99);
        due("9 carried", x.question(0, 3), 99);
        due("9 asked, lost", x.question(1, 2), 1);
        due("9 not carried", x.question(1, 3), 0);
        due("9 not carried, hangs", x.question(2, 3), 0);
        due("9 count(5)", x.count(5), 101);
        due("9 count(6)", x.count(6), 99);
        for (int q : new int[] {-1, 3, LEAST, MOST}) due("9 ask(" + q + ")", x.ask(q), UNKNOWN);
        due("9 ask without a rope", new RopeVote().ask(0), UNKNOWN);
    }

    private static void promise10() {
        due("10 tide without a rope", new RopeVote().tide(), STATE);
        RopeVote x = Due.hung("m1+-0,m1-+0,m1+-+,c1--0,m1--+,m1000");
        due("10 tide()", x.tide(), 1);
        // On 0: + - + - - 0: the first stays (0), the second goes over (+1), the third too (-1), the crank never.
        int[][] leans = {{1, 1, -1, -1, -1, -1}, {-1, -1, -1, -1, -1, -1}, {0, 1, 1, 0, 1, 1}};
        for (int q = 0; q < 3; q++) {
            for (int m = 0; m < 6; m++) due("10 lean of " + m + " on " + q, x.mussel(m, 2 + q), leans[q][m]);
        }
        RopeVote y = Due.hung("m1+++,m1000,m1---");
        y.cut(1);
        y.tide();
        due("10 over a cut thread nothing goes", y.mussel(1, 2), -1);
        due("10 what is not felt goes along too", y.mussel(1, 3), -1);
        due("10 one alone stays", y.mussel(0, 2), 1);
        RopeVote z = Due.hung("m1+00,k1000,s1000,e1000");
        z.tide();
        due("10 all at once: the next one", z.mussel(1, 2), 1);
        due("10 all at once: not the one behind", z.mussel(2, 2), 0);
    }

    private static void manyTides() {
        // More calls than an object is used for: no shorter run comes to this edge.
        RopeVote x = Due.hung("m1+00,m1000");
        for (int time = 1; time <= 999; time++) due("10 tide, the " + time + "th", x.tide(), time);
        due("10 tide, the 1000th", x.tide(), FULL);
        due("10 count(4)", x.count(4), 999);
    }

    private static void promise11And12() {
        RopeVote x = Due.hung("m1+00,m2+00,m3+00,m4+00");
        due("11 cut(3)", x.cut(3), 3);
        due("11 cut(1)", x.cut(1), 1);
        due("11 cut(2), behind a cut", x.cut(2), 1);
        long before = x.digest();
        due("11 cut(1) again", x.cut(1), STATE);
        due("12 tie(0) of a whole one", x.tie(0), STATE);
        for (int t : new int[] {-1, 4, 8, 32, LEAST, MOST}) {
            due("11 cut(" + t + ")", x.cut(t), UNKNOWN);
            due("12 tie(" + t + ")", x.tie(t), UNKNOWN);
        }
        unchanged("11 and 12", x, before);
        due("11 count(2)", x.count(2), 3);
        due("11 the sum", x.question(0, 0), 201);
        due("11 cut(0)", x.cut(0), 0);
        due("11 nothing is felt", x.question(0, 0), 200);
        due("12 tie(1), ahead of it a cut", x.tie(1), 0);
        due("12 tie(0)", x.tie(0), 2);
        due("12 tie(2)", x.tie(2), 3);
        due("12 tie(3)", x.tie(3), 4);
        due("12 the sum", x.question(0, 0), 210);
        due("11 cut without a rope", new RopeVote().cut(0), UNKNOWN);
        due("12 tie without a rope", new RopeVote().tie(0), UNKNOWN);
    }

    private static void promise13() {
        RopeVote x = Due.hung("m1+0-,c1+0-");
        due("13 turn from for", x.turn(0, 0, -1), 2);
        due("13 turn from neither", x.turn(0, 1, 1), 1);
        due("13 turn from against", x.turn(0, 2, 0), 0);
        due("13 turn to the same", x.turn(0, 2, 0), 1);
        due("13 a crank can be turned", x.turn(1, 0, 0), 2);
        due("13 so it leans", x.mussel(1, 2), 0);
        due("13 so it leans", x.mussel(0, 2), -1);
        due("13 so it leans", x.mussel(0, 3), 1);
        long before = x.digest();
        for (int bad : new int[] {-1, 2, LEAST, MOST}) due("13 turn(" + bad + ", 0, 9)", x.turn(bad, 0, 9), UNKNOWN);
        for (int bad : new int[] {-1, 3, LEAST, MOST}) due("13 turn(0, " + bad + ", 9)", x.turn(0, bad, 9), UNKNOWN);
        for (int bad : new int[] {-2, 2, LEAST, MOST}) due("13 turn(0, 0, " + bad + ")", x.turn(0, 0, bad), OUTSIDE);
        unchanged("13", x, before);
    }

    private static void promise14() {
        RopeVote x = Due.hung("m4+00,e3+00");
        due("14 grow", x.grow(0, 9), 4);
        due("14 grow", x.grow(0, 1), 9);
        due("14 grow to the same", x.grow(1, 3), 3);
        due("14 the sum", x.question(0, 0), 207);
        due("14 count(3)", x.count(3), 4);
        for (int bad : new int[] {0, 10, -1, LEAST, MOST}) due("14 grow(0, " + bad + ")", x.grow(0, bad), OUTSIDE);
        for (int bad : new int[] {-1, 2, LEAST, MOST}) due("14 grow(" + bad + ", 0)", x.grow(bad, 0), UNKNOWN);
        due("14 refusals change nothing", x.count(3), 4);
    }

    private static void sayIs(RopeVote x, int mussel, int question, int above, int below) {
        due("15 say(" + mussel + ", " + question + ", 0)", x.say(mussel, question, 0), above);
        due("15 say(" + mussel + ", " + question + ", 1)", x.say(mussel, question, 1), below);
    }

    private static void promise15() {
        RopeVote x = Due.hung("m3+-+,m2+-+,m1+-0,c9+-0");
        // On 0 pulls 3, 2, 1 for, 9 against (adds nothing): above 3 first. 3: 4 of 6; 2 and 1: 1 of 6 each.
        sayIs(x, 0, 0, 2, 3);
        sayIs(x, 1, 0, 1, 6);
        sayIs(x, 2, 0, 1, 6);
        sayIs(x, 3, 0, 0, 1);
        // On 1 only the crank pulls for it.
        sayIs(x, 3, 1, 1, 1);
        sayIs(x, 0, 1, 0, 1);
        // On 2 3 and 2: half is 2.5, so 3 alone is enough, 2 never.
        sayIs(x, 0, 2, 1, 1);
        sayIs(x, 1, 2, 0, 1);
        RopeVote y = Due.hung("m1+00,m1+00");
        // Half is not more than half: the second to join is the one.
        sayIs(y, 0, 0, 1, 2);
        sayIs(y, 0, 1, 0, 1);
        y.cut(1);
        sayIs(y, 0, 0, 1, 1);
        sayIs(y, 1, 0, 0, 1);
        y.cut(0);
        sayIs(y, 0, 0, 0, 1);
        sayIs(Due.hung("m1+00,m1+00,m1+00,m1+00,m1+00,m1+00,m1+00,m1+00"), 7, 0, 1, 8);
        for (int bad : new int[] {-1, 2, LEAST, MOST}) due("15 say(" + bad + ", 0, 9)", y.say(bad, 0, 9), UNKNOWN);
        for (int bad : new int[] {-1, 3, LEAST, MOST}) due("15 say(0, " + bad + ", 9)", y.say(0, bad, 9), UNKNOWN);
        for (int bad : new int[] {-1, 2, LEAST, MOST}) due("15 say(0, 0, " + bad + ")", y.say(0, 0, bad), OUTSIDE);
    }

    private static void chanceIs(RopeVote x, int question, int tenths, int above, int below) {
        due("16 chance(" + question + ", " + tenths + ", 0)", x.chance(question, tenths, 0), above);
        due("16 chance(" + question + ", " + tenths + ", 1)", x.chance(question, tenths, 1), below);
    }

    private static void promise16() {
        RopeVote x = Due.hung("m2+-0,m1--0");
        chanceIs(x, 0, 0, 1, 1);
        chanceIs(x, 0, 10, 0, 1);
        // Carried, if the first holds, whatever the second does.
        chanceIs(x, 0, 3, 7, 10);
        chanceIs(x, 0, 5, 1, 2);
        chanceIs(x, 1, 3, 0, 1);
        chanceIs(x, 2, 3, 0, 1);
        x.grow(0, 1);
        // Like ones hang: the first must hold, the second let go.
        chanceIs(x, 0, 3, 21, 100);
        x.cut(1);
        chanceIs(x, 0, 3, 7, 10);
        x.cut(0);
        chanceIs(x, 0, 3, 0, 1);
        // Who lets go still leans: the knot pulls as now.
        chanceIs(Due.hung("m1+00,k9000,m1+00"), 0, 5, 7, 8);
        chanceIs(Due.hung("m1+00,m1+00,m1+00,m1+00,m1+00,m1+00,m1+00,m1+00"), 0, 1, 99999999, 100000000);
        chanceIs(Due.hung("m1+00,m1+00,m1+00,m1+00,m1+00,m1+00,m1+00,m1+00"), 0, 9, 100000000 - 43046721, 100000000);
        for (int bad : new int[] {-1, 3, LEAST, MOST}) due("16 chance(" + bad + ", 11, 9)", x.chance(bad, 11, 9), UNKNOWN);
        for (int bad : new int[] {-1, 11, LEAST, MOST}) due("16 chance(0, " + bad + ", 0)", x.chance(0, bad, 0), OUTSIDE);
        for (int bad : new int[] {-1, 2, LEAST, MOST}) due("16 chance(0, 0, " + bad + ")", x.chance(0, 0, bad), OUTSIDE);
        due("16 chance without a rope", new RopeVote().chance(0, 0, 0), UNKNOWN);
    }

    private static void cutsAre(RopeVote x, int question, int out, int few, int which) {
        due("17 cuts(" + question + ", " + out + ", 0)", x.cuts(question, out, 0), few);
        due("17 cuts(" + question + ", " + out + ", 1)", x.cuts(question, out, 1), which);
    }

    private static void promise17() {
        RopeVote x = Due.hung("m1+-0,m2-+0,m3+-0,m4-+0");
        cutsAre(x, 0, -1, 0, 0);
        cutsAre(x, 0, 0, 1, 1);
        // Behind a cut of 1 the sum is 1, of 3 it is 2: of like ones the least.
        cutsAre(x, 0, 1, 1, 2);
        cutsAre(x, 1, 1, 0, 0);
        cutsAre(x, 1, -1, 1, 2);
        cutsAre(x, 2, 0, 0, 0);
        cutsAre(x, 2, 1, NONE, NONE);
        x.cut(1);
        cutsAre(x, 0, 1, 0, 0);
        cutsAre(x, 0, -1, NONE, NONE);
        x.cut(0);
        cutsAre(x, 0, 0, 0, 0);
        cutsAre(x, 0, 1, NONE, NONE);
        // A cut takes a neighbour too: 3 + 9 + 1, but 3 - 9, when the swayed one is left to itself.
        cutsAre(Due.hung("m3+00,s9-00,m1+00"), 0, -1, 1, 4);
        cutsAre(Due.hung("c2+00,k9000,m1+00,c1000"), 0, -1, 1, 2);
        for (int bad : new int[] {-1, 3, LEAST, MOST}) due("17 cuts(" + bad + ", 2, 9)", x.cuts(bad, 2, 9), UNKNOWN);
        for (int bad : new int[] {-2, 2, LEAST, MOST}) {
            due("17 cuts(0, " + bad + ", 0)", x.cuts(0, bad, 0), OUTSIDE);
            due("17 cuts(0, 0, " + bad + ")", x.cuts(0, 0, bad), OUTSIDE);
        }
        due("17 cuts without a rope", new RopeVote().cuts(0, 0, 0), UNKNOWN);
    }

    private static void turnsAre(RopeVote x, int question, int out, int few, int which) {
        due("18 fewTurns(" + question + ", " + out + ", 0)", x.fewTurns(question, out, 0), few);
        due("18 fewTurns(" + question + ", " + out + ", 1)", x.fewTurns(question, out, 1), which);
    }

    private static void promise18() {
        RopeVote x = Due.hung("m1+00,m2+00,m3+00,m4+00");
        turnsAre(x, 0, 1, 0, 0);
        // 10 is to hang: against 4 it is 2, against 3 it is 4; 2 and 3 turned over: 1 - 2 - 3 + 4.
        turnsAre(x, 0, 0, 2, 6);
        turnsAre(x, 0, -1, 2, 10);
        turnsAre(x, 1, 1, 1, 1);
        x.cut(2);
        // Only 1 and 2 are felt: to hang both must turn, to be lost 2 against 1 is enough.
        turnsAre(x, 0, 0, 2, 3);
        turnsAre(x, 0, -1, 1, 2);
        x.cut(0);
        turnsAre(x, 0, 1, NONE, NONE);
        turnsAre(x, 0, 0, 0, 0);
        due("18 one that answers NONE is done, too: count(11)", x.count(11), 16);
        due("18 fewTurns(3, 2, 2)", x.fewTurns(3, 2, 2), UNKNOWN);
        due("18 fewTurns(-1, 0, 0)", x.fewTurns(-1, 0, 0), UNKNOWN);
        for (int bad : new int[] {-2, 2, LEAST, MOST}) {
            due("18 fewTurns(0, " + bad + ", 0)", x.fewTurns(0, bad, 0), OUTSIDE);
            due("18 fewTurns(0, 0, " + bad + ")", x.fewTurns(0, 0, bad), OUTSIDE);
        }
        due("18 a refused one is not done: count(11)", x.count(11), 16);
        for (int time = 17; time <= 20; time++) due("18 the " + time + "th", x.fewTurns(0, 0, 0), 0);
        due("18 the 21st", x.fewTurns(0, 0, 0), STATE);
        due("18 OUTSIDE ahead of STATE", x.fewTurns(0, 2, 0), OUTSIDE);
        due("18 UNKNOWN ahead of STATE", x.fewTurns(3, 0, 0), UNKNOWN);
        due("18 count(11)", x.count(11), 20);
        Due.write(x, "m1+00,m2+00");
        x.rope();
        due("18 another rope: it was done 20 times all the same", x.fewTurns(0, 0, 0), STATE);
        due("18 fewTurns without a rope", new RopeVote().fewTurns(0, 0, 0), UNKNOWN);
        // Turning a neighbour of a knot turns the knot.
        turnsAre(Due.hung("k9000,m1+00,k9000,m1000"), 0, -1, 1, 2);
        turnsAre(Due.hung("m1+00,k9000,m1000,m1000"), 0, -1, 1, 1);
        // A crank that leans against pulls for.
        turnsAre(Due.hung("c5000,m4-00"), 0, 1, 1, 1);
    }

    private static void settleIs(String text, int many, int first) {
        RopeVote x = Due.hung(text);
        long before = x.digest();
        due("19 settle(0) of " + text, x.settle(0), many);
        due("19 settle(1) of " + text, x.settle(1), first);
        unchanged("19 settle of " + text, x, before);
    }

    private static void promise19() {
        settleIs("m1+-0,m1+-0", 1, 0);
        settleIs("m1+00,m1000", 2, 1);
        settleIs("m1+-0,m1000", 2, 1);
        settleIs("m1+00,m1000,m1000,m1000,m1000,m1000,m1000,m1000", 8, 7);
        settleIs("m1+00,c1000,m1000", 1, 0);
        settleIs("m1+0+,m100-,m100+,m100-", 4, 3);
        RopeVote x = Due.hung("m1+00,m1000,m1000");
        x.cut(1);
        due("19 over a cut thread nothing goes", x.settle(0), 1);
        for (int bad : new int[] {-1, 2, LEAST, MOST}) due("19 settle(" + bad + ")", x.settle(bad), OUTSIDE);
        due("19 settle without a rope", new RopeVote().settle(0), STATE);
        due("19 OUTSIDE ahead of STATE", new RopeVote().settle(2), OUTSIDE);
    }

    private static void promise20And21() {
        RopeVote x = Due.hung("m1+00,m1000");
        due("21 forget() of nothing", x.forget(), 0);
        due("20 see, the least sum", x.see(0, 0, 0), 1);
        due("20 see, the greatest", x.see(1, 2, 400), 2);
        due("20 see the same again", x.see(1, 2, 400), 3);
        for (int bad : new int[] {-1, 2, LEAST, MOST}) due("20 see(" + bad + ", 0, 999)", x.see(bad, 0, 999), UNKNOWN);
        for (int bad : new int[] {-1, 3, LEAST, MOST}) due("20 see(0, " + bad + ", 999)", x.see(0, bad, 999), UNKNOWN);
        for (int bad : new int[] {-1, 401, LEAST, MOST}) due("20 see(0, 0, " + bad + ")", x.see(0, 0, bad), OUTSIDE);
        for (int many = 4; many <= 6; many++) due("20 see, the " + many + "th", x.see(0, 1, 200), many);
        due("20 see, the seventh", x.see(0, 1, 200), FULL);
        due("20 OUTSIDE ahead of FULL", x.see(0, 1, 401), OUTSIDE);
        due("20 UNKNOWN ahead of FULL", x.see(2, 1, 200), UNKNOWN);
        due("20 count(8)", x.count(8), 6);
        due("20 nothing is left", x.mussel(0, 20), 0);
        due("21 forget()", x.forget(), 6);
        due("21 count(8)", x.count(8), 0);
        due("21 all is left again", x.mussel(0, 20), 7);
        due("20 see behind forget()", x.see(0, 0, 201), 1);
        due("20 for is left", x.mussel(0, 20), 1);
        x.grow(0, 2);
        due("20 by the weights as they are now", x.mussel(0, 20), 0);
        due("21 forget() without a rope", new RopeVote().forget(), 0);
        due("20 see without a rope", new RopeVote().see(0, 0, 200), UNKNOWN);
    }

    private static void promise22() {
        RopeVote x = Due.hung("m4+0+,e2-+0,c3+-0");
        long before = x.digest();
        // Seed 1: 1103527590 (16838, question 2), then 377401575 (5758, mussel 1 of 3): sum 4, carried.
        due("22 tides(1, 1, 2)", x.tides(1, 1, 2), 377401575);
        due("22 tides(1, 1, 1)", x.tides(1, 1, 1), 10004);
        due("22 tides(1, 1, 0)", x.tides(1, 1, 0), 1);
        // Then 662824084 (10113, question 0), 1147902781 (17515, mussel 1). The turn was neither to for on 2; the tide
        // left 0 as + - + to + + + but for the crank, so on 0 now 4 + 4 - 3 = 5.
        due("22 tides(2, 1, 2)", x.tides(2, 1, 2), 1147902781);
        due("22 tides(2, 1, 1)", x.tides(2, 1, 1), 10009);
        due("22 tides(2, 1, 0)", x.tides(2, 1, 0), 2);
        due("22 tides(1, 0, 2)", x.tides(1, 0, 2), (int) ((1103515245L * 12345 + 12345) % 2147483648L));
        unchanged("22", x, before);
        for (int bad : new int[] {0, 61, -1, LEAST, MOST}) due("22 tides(" + bad + ", 1, 0)", x.tides(bad, 1, 0), OUTSIDE);
        for (int bad : new int[] {-1, LEAST}) due("22 tides(1, " + bad + ", 0)", x.tides(1, bad, 0), OUTSIDE);
        for (int bad : new int[] {-1, 3, LEAST, MOST}) due("22 tides(1, 1, " + bad + ")", x.tides(1, 1, bad), OUTSIDE);
        due("22 tides without a rope", new RopeVote().tides(1, 1, 0), STATE);
        due("22 OUTSIDE ahead of STATE", new RopeVote().tides(0, 1, 0), OUTSIDE);
        due("22 tides(60, 2147483647, 2)", x.tides(60, MOST, 2), seedBehind(120, MOST));
    }

    /** On a rope of cranks no tide changes anything, so that only the draws and the turns are left to follow. */
    private static void tidesOfCranks() {
        RopeVote x = Due.hung("c3000,c5000");
        int[] weights = {3, 5};
        for (int seed : new int[] {0, 77, 123456789, MOST}) {
            int[][] leans = new int[3][2];
            int carried = 0;
            int sums = 10000;
            for (int time = 1; time <= 60; time++) {
                int q = seedBehind(2 * time - 1, seed) / 65536 % 3;
                int m = seedBehind(2 * time, seed) / 65536 % 2;
                int sum = -(leans[q][0] * weights[0] + leans[q][1] * weights[1]);
                sums += sum;
                if (sum > 0) carried++;
                if (leans[q][m] == 1) leans[q][m] = -1;
                else if (leans[q][m] == -1) leans[q][m] = 0;
                else leans[q][m] = 1;
                due("22 cranks: tides(" + time + ", " + seed + ", 0)", x.tides(time, seed, 0), carried);
                due("22 cranks: tides(" + time + ", " + seed + ", 1)", x.tides(time, seed, 1), sums);
            }
        }
    }

    private static int seedBehind(int draws, int seed) {
        long s = seed;
        for (int i = 0; i < draws; i++) s = (1103515245L * s + 12345) % 2147483648L;
        return (int) s;
    }

    private static void promise23And24() {
        RopeVote x = new RopeVote();
        due("23 image without a rope", x.image(), STATE);
        due("24 restore without an image", x.restore(), STATE);
        Due.write(x, "m4+0+,e2-+0,c3+-0");
        x.rope();
        due("24 restore with a rope, no image", x.restore(), STATE);
        x.tide();
        x.ask(0);
        x.ask(2);
        x.see(0, 0, 205);
        x.cut(2);
        x.grow(1, 7);
        x.turn(0, 1, -1);
        long kept = x.digest();
        due("23 image()", x.image(), 1);
        due("23 image() changes nothing", x.digest(), kept);
        x.tide();
        x.ask(0);
        x.ask(1);
        x.forget();
        x.see(1, 1, 7);
        x.see(1, 1, 8);
        x.tie(2);
        x.cut(0);
        x.grow(1, 9);
        x.turn(0, 1, 1);
        x.turn(1, 2, -1);
        due("24 restore()", x.restore(), 1);
        due("24 all is as it was kept", x.digest(), kept);
        x.grow(0, 1);
        due("24 restore() again", x.restore(), 1);
        due("24 the image is not spent", x.digest(), kept);
        x.tide();
        due("23 the latest is kept", x.image(), 2);
        x.tide();
        due("24 restore() of the latest", x.restore(), 2);
        x.fewTurns(0, 0, 0);
        Due.write(x, "m1");
        x.restore();
        due("24 the page is no part of it", x.count(9), 2);
        due("24 nor how often fewTurns() was done", x.count(11), 1);
        due("24 nor how often a rope was read", x.count(10), 1);
        due("24 a rope that is none", x.rope(), STATE);
        due("24 leaves the image", x.restore(), 2);
        x.blank();
        Due.write(x, "m4+0+,e2-+0,c3+-0");
        x.rope();
        due("24 another rope since, though alike", x.restore(), STATE);
        due("23 image() of it", x.image(), 0);
        due("24 restore() of it", x.restore(), 0);
    }

    private static void promise25() {
        RopeVote x = Due.hung("m4+0+,e2-++,c3+-0");
        x.cut(2);
        x.ask(2);
        x.ask(2);
        x.ask(0);
        x.tide();
        x.see(0, 0, 200);
        x.fewTurns(0, 1, 0);
        x.fewTurns(0, 1, 0);
        Due.write(x, "m1+");
        // On 0: + and - stay: 4 - 4 hangs; on 1: 0 and + go to +; on 2: both +.
        int[] told = {3, 2, 1, 9, 1, 3, 2, 2, 1, 3, 1, 2};
        for (int what = 0; what <= 11; what++) due("25 count(" + what + ")", x.count(what), told[what]);
        for (int bad : new int[] {-1, 12, LEAST, MOST}) due("25 count(" + bad + ")", x.count(bad), OUTSIDE);
    }

    private static void promise26() {
        long counts = mixed(1171, 0, 0, 0, 0, 0, 0, 0, 0, 0, 0, 0, 0);
        due("26 digest() of a new one", new RopeVote().digest(), counts);
        RopeVote x = new RopeVote();
        Due.write(x, "m1");
        due("26 digest() of a page", x.digest(), mixed(1171, 109, 49, 0, 0, 0, 0, 0, 0, 0, 0, 0, 2, 0, 0));
        RopeVote y = Due.hung("m2+00,e1-00");
        Due.write(y, "k");
        long h = mixed(1171, 0, 2, 1, 0, 0, 1, 1, 0, 102, 100, 100, 7, 7, 7);
        h = mixed(h, 1, 1, -1, 0, 0, 1, 1, 0, 98, 100, 100, 7, 7, 7);
        h = mixed(h, 200, 0, 0, 0, 1, 1, 1, 1, 0, 1, 21, 100, 1, 2);
        h = mixed(h, 200, 0, 0, 0, 0, 0, 0, 1, 0, 1, 0, 1, NONE, NONE);
        h = mixed(h, 200, 0, 0, 0, 0, 0, 0, 1, 0, 1, 0, 1, NONE, NONE);
        h = mixed(h, 1, 0, 107, 2, 2, 0, 3, 0, 0, 0, 0, 0, 1, 1, 0);
        due("26 digest() of a rope", y.digest(), h);
        due("26 digest() changes nothing", y.digest(), h);
    }

    public static void main(String[] args) {
        promise1();
        promise2();
        promise3();
        promise4();
        promise5();
        promise6();
        promise7();
        promise8();
        promise9();
        promise10();
        manyTides();
        promise11And12();
        promise13();
        promise14();
        promise15();
        promise16();
        promise17();
        promise18();
        promise19();
        promise20And21();
        promise22();
        tidesOfCranks();
        promise23And24();
        promise25();
        promise26();
        DUE.end("PromisesTest");
    }
}
