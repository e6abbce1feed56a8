/** Boundary cases of promises 9 to 14: what is done to the rope. */
final class DoneEdges {
    private DoneEdges() {
    }

    // ---- promise 9

    private static RopeVote askedTillFull() {
        RopeVote x = Due.hung("m1+-0,m1+-0");
        for (int time = 1; time <= 99; time++) x.ask(0);
        return x;
    }

    @Holds(promise = 9, says = "FULL: it was asked 99 times")
    static void theLastTimeItIsAskedAndTheNext(Due d) {
        RopeVote x = Due.hung("m1+-0,m1+-0");
        for (int q = 0; q < 3; q++) {
            int due = new int[] {1, 2, 0}[q];
            for (int time = 1; time <= 99; time++) d.is("ask(" + q + "), time " + time, x.ask(q), due);
            d.is("ask(" + q + "), time 100", x.ask(q), Edges.FULL);
            d.is("question(" + q + ", 2)", x.question(q, 2), 99);
            d.is("question(" + q + ", 3)", x.question(q, 3), q == 0 ? 99 : 0);
        }
        d.is("count(5)", x.count(5), 297);
        d.is("count(6)", x.count(6), 99);
    }

    @Holds(promise = 9, says = "FULL: it was asked 99 times")
    static void aFullQuestionStays(Due d) {
        Edges.refused(d, "ask(0)", DoneEdges::askedTillFull, x -> x.ask(0), Edges.FULL);
        Edges.refused(d, "ask(3)", DoneEdges::askedTillFull, x -> x.ask(3), Edges.UNKNOWN);
        d.is("ask(1)", askedTillFull().ask(1), 2);
        d.is("ask(2)", askedTillFull().ask(2), 0);
    }

    @Holds(promise = 9, says = "An IMAGE keeps WEIGHTS, how all LEAN, THREADS, TIDES, how often each QUESTION was asked")
    static void aFullQuestionBehindRestore(Due d) {
        RopeVote x = Due.hung("m1+-0,m1+-0");
        x.ask(0);
        x.image();
        for (int time = 2; time <= 99; time++) x.ask(0);
        d.is("ask(0)", x.ask(0), Edges.FULL);
        x.restore();
        d.is("ask(0) behind restore()", x.ask(0), 1);
        d.is("question(0, 2)", x.question(0, 2), 2);
    }

    @Holds(promise = 9, says = "UNKNOWN (a number names nothing)")
    static void askTheLastQuestionAndTheNext(Due d) {
        d.is("ask(0)", Edges.two().ask(0), 2);
        d.is("ask(2)", Edges.two().ask(2), 1);
        for (int q : Edges.around(0, 2)) Edges.refused(d, "ask(" + q + ")", Edges::busy, x -> x.ask(q), Edges.UNKNOWN);
    }

    @Holds(promise = 9, says = "UNKNOWN (a number names nothing)")
    static void askWithoutARope(Due d) {
        for (int q = 0; q < 3; q++) {
            int question = q;
            Edges.refused(d, "ask(" + q + ")", Edges::none, x -> x.ask(question), Edges.UNKNOWN);
        }
    }

    @Holds(promise = 9, says = "1 CARRIED, 0 HANGS, 2 LOST")
    static void askedOfSumsNextToNothing(Due d) {
        int[] weights = {4, 5, 6};
        int[] due = {2, 0, 1};
        for (int i = 0; i < 3; i++) {
            RopeVote x = Due.hung("m1+00,m5-00");
            x.grow(0, weights[i]);
            d.is("ask(0)", x.ask(0), due[i]);
            d.is("question(0, 2)", x.question(0, 2), 1);
            d.is("question(0, 3)", x.question(0, 3), i == 2 ? 1 : 0);
        }
    }

    @Holds(promise = 9, says = "1 CARRIED, 0 HANGS, 2 LOST")
    static void askedOfNobody(Due d) {
        RopeVote x = Edges.eight();
        x.cut(0);
        for (int q = 0; q < 3; q++) d.is("ask(" + q + ")", x.ask(q), 0);
    }

    // ---- promise 10

    @Holds(promise = 10, says = "STATE: no ROPE")
    static void noTideWithoutARope(Due d) {
        Edges.refused(d, "tide()", Edges::none, x -> x.tide(), Edges.STATE);
        Edges.refused(d, "tide(), a rope on the page", () -> Edges.page(Edges.TWO), x -> x.tide(), Edges.STATE);
    }

    @Holds(promise = 10, says = "FULL: 999 were")
    static void theLastTideAndTheNext(Due d) {
        // No run of 512 calls comes here; it holds all the same.
        RopeVote x = Due.hung("m1+00,m1000");
        for (int time = 1; time <= 998; time++) x.tide();
        d.is("tide(), the 999th", x.tide(), 999);
        x.turn(1, 0, -1);
        x.turn(0, 1, 1);
        long before = x.digest();
        d.is("tide(), the 1000th", x.tide(), Edges.FULL);
        d.is("digest()", x.digest(), before);
        d.is("count(4)", x.count(4), 999);
    }

    @Holds(promise = 10, says = "it is TIDE 0")
    static void theFirstTide(Due d) {
        d.is("count(4)", Edges.two().count(4), 0);
        d.is("tide()", Edges.two().tide(), 1);
        RopeVote x = Edges.busy();
        d.is("tide()", x.tide(), 3);
        x.blank();
        Due.write(x, Edges.TWO);
        x.rope();
        d.is("tide() of another rope", x.tide(), 1);
    }

    @Holds(promise = 10, says = "for, if that is more than 0, against, if less; else it stays")
    static void mostOfThreeOfEveryKind(Due d) {
        for (String kind : new String[] {"m", "e", "k", "s", "c"}) {
            for (int way = 0; way < 27; way++) {
                int ahead = way % 3 - 1;
                int own = way / 3 % 3 - 1;
                int behind = way / 9 - 1;
                RopeVote x = Due.hung("m1000," + kind + "1000,m1000");
                x.turn(0, 0, ahead);
                x.turn(1, 0, own);
                x.turn(2, 0, behind);
                x.tide();
                int most = Integer.signum(ahead + own + behind);
                d.is(kind + " " + own + " between " + ahead + " and " + behind, x.mussel(1, 2), most == 0 || kind.equals("c") ? own : most);
                d.is("on another question", x.mussel(1, 3), 0);
            }
        }
    }

    @Holds(promise = 10, says = "itself, and its neighbours on whole THREADS")
    static void theEndsHaveOneNeighbour(Due d) {
        for (int way = 0; way < 9; way++) {
            int one = way % 3 - 1;
            int other = way / 3 - 1;
            int most = Integer.signum(one + other);
            RopeVote x = Due.hung("m1000,m1000");
            x.turn(0, 0, one);
            x.turn(1, 0, other);
            x.image();
            x.tide();
            d.is("the first of " + one + " and " + other, x.mussel(0, 2), most == 0 ? one : most);
            d.is("the last", x.mussel(1, 2), most == 0 ? other : most);
            x.restore();
            x.cut(1);
            x.tide();
            d.is("cut: the first stays", x.mussel(0, 2), one);
            d.is("cut: the last stays", x.mussel(1, 2), other);
            x.restore();
            x.cut(0);
            x.tide();
            d.is("cut at the rail: the first goes along", x.mussel(0, 2), most == 0 ? one : most);
        }
    }

    @Holds(promise = 10, says = "all at once")
    static void aLeanGoesOneMusselATide(Due d) {
        RopeVote x = Due.hung("m1+00,m1000,m1000,m1000,m1000,m1000,m1000,m1000");
        RopeVote y = Due.hung("m1000,m1000,m1000,m1000,m1000,m1000,m1000,m1-00");
        for (int time = 1; time <= 8; time++) {
            x.tide();
            y.tide();
            for (int m = 0; m < 8; m++) {
                d.is("behind " + time + " tides, mussel " + m, x.mussel(m, 2), m <= time ? 1 : 0);
                d.is("upwards, mussel " + m, y.mussel(m, 2), m >= 7 - time ? -1 : 0);
            }
        }
    }

    // ---- promise 11

    @Holds(promise = 11, says = "UNKNOWN: thread")
    static void cutTheLastThreadAndTheNext(Due d) {
        for (int many = 2; many <= 8; many++) {
            String text = Edges.ropeOf(many);
            d.is("cut(0) of " + text, Due.hung(text).cut(0), 0);
            d.is("cut(" + (many - 1) + ") of " + text, Due.hung(text).cut(many - 1), many - 1);
            for (int t : Edges.around(0, many - 1)) d.is("cut(" + t + ") of " + text, Due.hung(text).cut(t), Edges.UNKNOWN);
        }
        for (int t : Edges.around(0, Edges.BUSY - 1)) Edges.refused(d, "cut(" + t + ")", Edges::busy, x -> x.cut(t), Edges.UNKNOWN);
    }

    @Holds(promise = 11, says = "UNKNOWN: thread")
    static void cutWithoutARope(Due d) {
        Edges.refused(d, "cut(0)", Edges::none, x -> x.cut(0), Edges.UNKNOWN);
    }

    @Holds(promise = 11, says = "STATE: it is CUT")
    static void cutWhatIsCut(Due d) {
        Edges.refused(d, "cut(2)", Edges::busy, x -> x.cut(2), Edges.STATE);
        for (int thread = 0; thread < 8; thread++) {
            RopeVote x = Edges.eight();
            d.is("cut(" + thread + ")", x.cut(thread), thread);
            d.is("cut(" + thread + ") again", x.cut(thread), Edges.STATE);
            d.is("count(2)", x.count(2), 1);
        }
    }

    @Holds(promise = 11, says = "how many MUSSELS are FELT then")
    static void cutAllThreadsFromTheDeepEnd(Due d) {
        RopeVote x = Edges.eight();
        for (int thread = 7; thread >= 0; thread--) d.is("cut(" + thread + ")", x.cut(thread), thread);
        d.is("count(2)", x.count(2), 8);
        for (int thread = 0; thread < 8; thread++) d.is("cut(" + thread + ")", x.cut(thread), Edges.STATE);
    }

    @Holds(promise = 11, says = "how many MUSSELS are FELT then")
    static void cutBehindACut(Due d) {
        RopeVote x = Edges.eight();
        for (int thread = 0; thread < 8; thread++) d.is("cut(" + thread + ")", x.cut(thread), 0);
    }

    // ---- promise 12

    @Holds(promise = 12, says = "UNKNOWN (a number names nothing)")
    static void tieTheLastThreadAndTheNext(Due d) {
        for (int many = 2; many <= 8; many++) {
            RopeVote x = Due.hung(Edges.ropeOf(many));
            x.cut(0);
            x.cut(many - 1);
            for (int t : Edges.around(0, many - 1)) d.is("tie(" + t + ") of " + many, x.tie(t), Edges.UNKNOWN);
            d.is("tie(0) of " + many, x.tie(0), many - 1);
            d.is("tie(" + (many - 1) + ")", x.tie(many - 1), many);
        }
        for (int t : Edges.around(0, Edges.BUSY - 1)) Edges.refused(d, "tie(" + t + ")", Edges::busy, x -> x.tie(t), Edges.UNKNOWN);
    }

    @Holds(promise = 12, says = "UNKNOWN (a number names nothing)")
    static void tieWithoutARope(Due d) {
        Edges.refused(d, "tie(0)", Edges::none, x -> x.tie(0), Edges.UNKNOWN);
    }

    @Holds(promise = 12, says = "STATE: it is whole")
    static void tieWhatIsWhole(Due d) {
        for (int t : new int[] {0, 1, 3}) Edges.refused(d, "tie(" + t + ")", Edges::busy, x -> x.tie(t), Edges.STATE);
        for (int thread = 0; thread < 8; thread++) {
            RopeVote x = Edges.eight();
            d.is("tie(" + thread + ")", x.tie(thread), Edges.STATE);
            x.cut(thread);
            d.is("tie(" + thread + ") behind cut()", x.tie(thread), 8);
            d.is("tie(" + thread + ") again", x.tie(thread), Edges.STATE);
        }
    }

    @Holds(promise = 12, says = "how many MUSSELS are FELT then")
    static void tieAllThreads(Due d) {
        RopeVote x = Edges.eight();
        for (int thread = 0; thread < 8; thread++) x.cut(thread);
        x.image();
        for (int thread = 0; thread < 8; thread++) d.is("from the rail, tie(" + thread + ")", x.tie(thread), thread + 1);
        x.restore();
        for (int thread = 7; thread > 0; thread--) d.is("from the deep end, tie(" + thread + ")", x.tie(thread), 0);
        d.is("tie(0)", x.tie(0), 8);
        d.is("count(2)", x.count(2), 0);
    }

    // ---- promise 13

    @Holds(promise = 13, says = "UNKNOWN: mussel, question")
    static void turnTheLastMusselAndTheNext(Due d) {
        d.is("turn(0, 0, 0)", Edges.eight().turn(0, 0, 0), 2);
        d.is("turn(7, 0, 0)", Edges.eight().turn(7, 0, 0), 0);
        for (int m : Edges.around(0, Edges.BUSY - 1)) {
            Edges.refused(d, "turn(" + m + ", 0, 0)", Edges::busy, x -> x.turn(m, 0, 0), Edges.UNKNOWN);
        }
        for (int many = 2; many <= 8; many++) {
            int next = many;
            Edges.refused(d, "turn(" + many + ", 0, 1)", () -> Due.hung(Edges.ropeOf(next)), x -> x.turn(next, 0, 1), Edges.UNKNOWN);
        }
    }

    @Holds(promise = 13, says = "UNKNOWN: mussel, question")
    static void turnOnTheLastQuestionAndTheNext(Due d) {
        d.is("turn(0, 0, 0)", Edges.two().turn(0, 0, 0), 2);
        d.is("turn(0, 2, 0)", Edges.two().turn(0, 2, 0), 1);
        for (int q : Edges.around(0, 2)) {
            Edges.refused(d, "turn(0, " + q + ", 0)", Edges::busy, x -> x.turn(0, q, 0), Edges.UNKNOWN);
        }
    }

    @Holds(promise = 13, says = "UNKNOWN: mussel, question")
    static void turnWithoutARope(Due d) {
        Edges.refused(d, "turn(0, 0, 0)", Edges::none, x -> x.turn(0, 0, 0), Edges.UNKNOWN);
    }

    @Holds(promise = 13, says = "OUTSIDE: lean (1, 0, -1)")
    static void theLastLeanAndTheNext(Due d) {
        for (int lean = -1; lean <= 1; lean++) {
            RopeVote x = Edges.two();
            d.is("turn(0, 0, " + lean + ")", x.turn(0, 0, lean), 2);
            d.is("mussel(0, 2)", x.mussel(0, 2), lean);
        }
        for (int lean : Edges.around(-1, 1)) {
            Edges.refused(d, "turn(0, 0, " + lean + ")", Edges::busy, x -> x.turn(0, 0, lean), Edges.OUTSIDE);
        }
    }

    @Holds(promise = 13, says = "of several the first as told by each call")
    static void turnWithSeveralWrong(Due d) {
        for (int lean : new int[] {-2, 2}) {
            Edges.refused(d, "turn(4, 0, " + lean + ")", Edges::busy, x -> x.turn(Edges.BUSY, 0, lean), Edges.UNKNOWN);
            Edges.refused(d, "turn(0, 3, " + lean + ")", Edges::busy, x -> x.turn(0, 3, lean), Edges.UNKNOWN);
            Edges.refused(d, "turn(-1, -1, " + lean + ")", Edges::busy, x -> x.turn(-1, -1, lean), Edges.UNKNOWN);
            Edges.refused(d, "turn(0, 0, " + lean + ") without a rope", Edges::none, x -> x.turn(0, 0, lean), Edges.UNKNOWN);
        }
    }

    @Holds(promise = 13, says = "how it did, told as 1 more (2 for, 1 neither, 0 against)")
    static void fromEachLeanToEach(Due d) {
        for (int from = -1; from <= 1; from++) {
            for (int to = -1; to <= 1; to++) {
                RopeVote x = Edges.eight();
                x.turn(7, 2, from);
                d.is("turn(7, 2, " + to + ") from " + from, x.turn(7, 2, to), from + 1);
                d.is("mussel(7, 4)", x.mussel(7, 4), to);
            }
        }
    }

    // ---- promise 14

    @Holds(promise = 14, says = "OUTSIDE: weight (1 to 9)")
    static void theLastWeightAndTheNext(Due d) {
        for (int weight = 1; weight <= 9; weight++) {
            RopeVote x = Edges.two();
            d.is("grow(1, " + weight + ")", x.grow(1, weight), 2);
            d.is("mussel(1, 1)", x.mussel(1, 1), weight);
        }
        for (int weight : Edges.around(1, 9)) {
            Edges.refused(d, "grow(0, " + weight + ")", Edges::busy, x -> x.grow(0, weight), Edges.OUTSIDE);
        }
    }

    @Holds(promise = 14, says = "UNKNOWN (a number names nothing)")
    static void growTheLastMusselAndTheNext(Due d) {
        d.is("grow(0, 1)", Edges.eight().grow(0, 1), 9);
        d.is("grow(7, 1)", Edges.eight().grow(7, 1), 2);
        for (int m : Edges.around(0, Edges.BUSY - 1)) {
            Edges.refused(d, "grow(" + m + ", 1)", Edges::busy, x -> x.grow(m, 1), Edges.UNKNOWN);
        }
        for (int many = 2; many <= 8; many++) {
            int next = many;
            Edges.refused(d, "grow(" + many + ", 9)", () -> Due.hung(Edges.ropeOf(next)), x -> x.grow(next, 9), Edges.UNKNOWN);
        }
    }

    @Holds(promise = 14, says = "UNKNOWN (a number names nothing)")
    static void growWithoutARope(Due d) {
        Edges.refused(d, "grow(0, 1)", Edges::none, x -> x.grow(0, 1), Edges.UNKNOWN);
    }

    @Holds(promise = 14, says = "of several the first as told by each call")
    static void growWithSeveralWrong(Due d) {
        for (int weight : new int[] {0, 10}) {
            Edges.refused(d, "grow(-1, " + weight + ")", Edges::busy, x -> x.grow(-1, weight), Edges.UNKNOWN);
            Edges.refused(d, "grow(4, " + weight + ")", Edges::busy, x -> x.grow(Edges.BUSY, weight), Edges.UNKNOWN);
            Edges.refused(d, "grow(0, " + weight + ") without a rope", Edges::none, x -> x.grow(0, weight), Edges.UNKNOWN);
        }
    }
}
