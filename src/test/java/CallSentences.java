/** Promises 1 to 26, the whole text of each, on ordinary inputs worked out by hand and on one wrong input a refusal. */
final class CallSentences {
    private CallSentences() {
    }

    private static void answers(Due d, String calls, int[] got, int... want) {
        for (int i = 0; i < got.length; i++) d.is(calls + ", the " + i + "th", got[i], want[i]);
    }

    // ---- promises 1 to 5: the rope

    @Holds(promise = 1, says = "No ROPE.")
    static void aNewObject(Due d) {
        RopeVote x = new RopeVote();
        answers(d, "count(0), tide(), image(), restore(), settle(0), tides(1, 0, 0)",
                new int[] {x.count(0), x.tide(), x.image(), x.restore(), x.settle(0), x.tides(1, 0, 0)},
                0, Edges.STATE, Edges.STATE, Edges.STATE, Edges.STATE, Edges.STATE);
        answers(d, "mussel(0, 0), as(0, 0), question(0, 0), ask(0), cut(0), tie(0)",
                new int[] {x.mussel(0, 0), x.as(0, 0), x.question(0, 0), x.ask(0), x.cut(0), x.tie(0)},
                Edges.UNKNOWN, Edges.UNKNOWN, Edges.UNKNOWN, Edges.UNKNOWN, Edges.UNKNOWN, Edges.UNKNOWN);
        answers(d, "turn(0, 0, 0), grow(0, 1), say(0, 0, 0), chance(0, 0, 0), cuts(0, 0, 0), fewTurns(0, 0, 0), see(0, 0, 0)",
                new int[] {x.turn(0, 0, 0), x.grow(0, 1), x.say(0, 0, 0), x.chance(0, 0, 0), x.cuts(0, 0, 0), x.fewTurns(0, 0, 0),
                    x.see(0, 0, 0)},
                Edges.UNKNOWN, Edges.UNKNOWN, Edges.UNKNOWN, Edges.UNKNOWN, Edges.UNKNOWN, Edges.UNKNOWN, Edges.UNKNOWN);
    }

    @Holds(promise = 2, says = "A letter comes behind THE PAGE, told by its code: how many THE PAGE has. OUTSIDE: code (32 to 126); FULL: above 50.")
    static void letter(Due d) {
        RopeVote x = new RopeVote();
        for (int i = 0; i < Town.ROPE.length(); i++) d.is("letter " + i, x.letter(Town.ROPE.charAt(i)), i + 1);
        d.is("they stand in their order, rope()", x.rope(), Town.SIZE);
        for (int i = 1; i <= 50; i++) d.is("letter(32)", x.letter(32), i);
        d.is("letter(127)", x.letter(127), Edges.OUTSIDE);
        d.is("letter(32)", x.letter(32), Edges.FULL);
    }

    @Holds(promise = 3, says = "THE PAGE is empty: how many letters it had.")
    static void blank(Due d) {
        RopeVote x = Edges.page("m1+-");
        d.is("blank()", x.blank(), 4);
        d.is("count(9)", x.count(9), 0);
        d.is("blank() again", x.blank(), 0);
        Due.write(x, Town.ROPE);
        d.is("nothing is left ahead of it, rope()", x.rope(), Town.SIZE);
    }

    @Holds(promise = 4, says = "The place (from 0) of the first letter of THE PAGE that no ROPE has there, behind those ahead of it; "
            + "how many letters it has, if there is none.")
    static void fault(Due d) {
        for (int place = 0; place < Town.ROPE.length(); place++) {
            RopeVote x = Edges.page(Town.ROPE.substring(0, place));
            d.is("none yet at " + place, x.fault(), place);
            x.letter('!');
            Due.write(x, "!!");
            d.is("the first at " + place, x.fault(), place);
        }
    }

    @Holds(promise = 5, says = "THE PAGE is read as THE ROPE (another one is gone, with all that was): how many MUSSELS; THE PAGE is empty then. "
            + "STATE: it is none.")
    static void rope(Due d) {
        RopeVote x = Edges.page("m1+-0");
        d.is("one mussel, rope()", x.rope(), Edges.STATE);
        d.is("the page stays", x.count(9), 5);
        Due.write(x, ",m1+-0");
        d.is("two, rope()", x.rope(), 2);
        d.is("the page is empty", x.count(9), 0);
        x.ask(0);
        x.tide();
        x.cut(1);
        x.see(0, 0, 201);
        x.image();
        Due.write(x, Town.ROPE);
        d.is("another one, rope()", x.rope(), Town.SIZE);
        answers(d, "count(2), (4), (5), (6), (8), (9), restore()",
                new int[] {x.count(2), x.count(4), x.count(5), x.count(6), x.count(8), x.count(9), x.restore()},
                0, 0, 0, 0, 0, 0, Edges.STATE);
        Town.leansAre(d, "another one", x, Town.LEANS);
    }

    // ---- promises 6 to 8: mussels, questions

    @Holds(promise = 6, says = "Of a MUSSEL: what = 0 KIND, 1 WEIGHT, 2 to 4 how it LEANS on QUESTION 0 to 2 (1 for, 0 neither, -1 against), "
            + "5 whether it is FELT at the rail (1, 0), 6 whether its THREAD is whole (1, 0), 7 ASK (NONE), "
            + "10 to 12 what it PULLS on QUESTION 0 to 2 (told as 100 more), 20 to 22 LEANS on it, as bits. UNKNOWN; OUTSIDE.")
    static void mussel(Due d) {
        RopeVote x = Town.hung();
        x.cut(4);
        x.see(1, 2, 194);
        // The elder: -4 - 2 without it on question 2, which is 194 only if it leans neither way.
        int[] elder = {1, 3, -1, 1, 0, 1, 1, 0};
        int[] swayed = {4, 6, 1, -1, 0, 0, 0, Edges.NONE};
        for (int what = 0; what <= 7; what++) {
            d.is("mussel(1, " + what + ")", x.mussel(1, what), elder[what]);
            d.is("mussel(4, " + what + ")", x.mussel(4, what), swayed[what]);
        }
        int[][] pulls = {{94, 106, 100}, {106, 94, 100}};
        int[][] left = {{7, 7, 2}, {7, 7, 7}};
        for (int q = 0; q < 3; q++) {
            d.is("mussel(1, " + (10 + q) + ")", x.mussel(1, 10 + q), pulls[0][q]);
            d.is("mussel(4, " + (10 + q) + ")", x.mussel(4, 10 + q), pulls[1][q]);
            d.is("mussel(1, " + (20 + q) + ")", x.mussel(1, 20 + q), left[0][q]);
            d.is("mussel(4, " + (20 + q) + ")", x.mussel(4, 20 + q), left[1][q]);
        }
        for (int what : new int[] {-1, 8, 9, 13, 19, 23}) d.is("mussel(1, " + what + ")", x.mussel(1, what), Edges.OUTSIDE);
        for (int m : new int[] {-1, Town.SIZE}) d.is("mussel(" + m + ", 8)", x.mussel(m, 8), Edges.UNKNOWN);
    }

    @Holds(promise = 7, says = "A MUSSEL taken as a KIND: its number; NONE: it is none such (the cast fails). UNKNOWN; OUTSIDE.")
    static void as(Due d) {
        RopeVote x = Town.hung();
        answers(d, "as(5, 0), as(1, 1), as(2, 1), as(4, 3), as(3, 4), as(6, 5), as(-1, 0), as(0, 5), as(0, -1)",
                new int[] {x.as(5, 0), x.as(1, 1), x.as(2, 1), x.as(4, 3), x.as(3, 4), x.as(6, 5), x.as(-1, 0), x.as(0, 5), x.as(0, -1)},
                5, 1, Edges.NONE, 4, Edges.NONE, Edges.UNKNOWN, Edges.UNKNOWN, Edges.OUTSIDE, Edges.OUTSIDE);
    }

    @Holds(promise = 8, says = "Of a QUESTION: what = 0 the SUM (told as 200 more), 1 how it comes out (1 CARRIED, 0 HANGS, -1 LOST), "
            + "2 how often it was asked, 3 CARRIED of these, 4 how many LEAN for it, 5 against (FELT at the rail, or not). "
            + "UNKNOWN: question (0 to 2; also without a ROPE); OUTSIDE.")
    static void question(Due d) {
        RopeVote x = Town.hung();
        x.ask(2);
        x.ask(2);
        x.cut(1);
        x.ask(2);
        x.ask(0);
        // Mussel 0 alone is felt.
        int[][] due = {{204, 1, 1, 1, 3, 3}, {200, 0, 0, 0, 2, 2}, {196, -1, 3, 2, 3, 1}};
        for (int q = 0; q < 3; q++) {
            for (int what = 0; what <= 5; what++) d.is("question(" + q + ", " + what + ")", x.question(q, what), due[q][what]);
        }
        answers(d, "question(3, 6), question(-1, 0), question(0, 6), question(0, -1)",
                new int[] {x.question(3, 6), x.question(-1, 0), x.question(0, 6), x.question(0, -1)},
                Edges.UNKNOWN, Edges.UNKNOWN, Edges.OUTSIDE, Edges.OUTSIDE);
        d.is("without a rope, question(0, 0)", Edges.none().question(0, 0), Edges.UNKNOWN);
    }

    // ---- promises 9 to 14: what is done

    @Holds(promise = 9, says = "A QUESTION is asked: 1 CARRIED, 0 HANGS, 2 LOST. UNKNOWN; FULL: it was asked 99 times.")
    static void ask(Due d) {
        RopeVote x = Town.hung();
        d.is("ask(0)", x.ask(0), 2);
        d.is("ask(2)", x.ask(2), 1);
        x.cut(0);
        d.is("nothing felt, ask(1)", x.ask(1), 0);
        d.is("ask(3)", x.ask(3), Edges.UNKNOWN);
        for (int time = 2; time <= 99; time++) x.ask(1);
        d.is("the 100th, ask(1)", x.ask(1), Edges.FULL);
        d.is("question(1, 2)", x.question(1, 2), 99);
        d.is("of another one, ask(0)", x.ask(0), 0);
    }

    @Holds(promise = 10, says = "A TIDE: how many there were. STATE: no ROPE; FULL: 999 were.")
    static void tide(Due d) {
        RopeVote x = Edges.page(Town.ROPE);
        d.is("tide()", x.tide(), Edges.STATE);
        x.rope();
        for (int time = 1; time <= 999; time++) d.is("tide()", x.tide(), time);
        d.is("the 1000th, tide()", x.tide(), Edges.FULL);
        d.is("count(4)", x.count(4), 999);
    }

    @Holds(promise = 11, says = "A THREAD is CUT: how many MUSSELS are FELT then. UNKNOWN: thread; STATE: it is CUT.")
    static void cut(Due d) {
        RopeVote x = Town.hung();
        answers(d, "cut(4), cut(5), cut(2), cut(2), cut(6), cut(-1)",
                new int[] {x.cut(4), x.cut(5), x.cut(2), x.cut(2), x.cut(6), x.cut(-1)},
                4, 4, 2, Edges.STATE, Edges.UNKNOWN, Edges.UNKNOWN);
        d.is("count(2)", x.count(2), 3);
    }

    @Holds(promise = 12, says = "A THREAD is whole again: how many MUSSELS are FELT then. UNKNOWN; STATE: it is whole.")
    static void tie(Due d) {
        RopeVote x = Town.hung();
        x.cut(1);
        x.cut(3);
        answers(d, "tie(1), tie(1), tie(3), tie(6), tie(-1)",
                new int[] {x.tie(1), x.tie(1), x.tie(3), x.tie(6), x.tie(-1)}, 3, Edges.STATE, 6, Edges.UNKNOWN, Edges.UNKNOWN);
        d.is("count(2)", x.count(2), 0);
    }

    @Holds(promise = 13, says = "A MUSSEL LEANS so on a QUESTION: how it did, told as 1 more (2 for, 1 neither, 0 against). "
            + "UNKNOWN: mussel, question; OUTSIDE: lean (1, 0, -1).")
    static void turn(Due d) {
        RopeVote x = Town.hung();
        answers(d, "a crank turns, too: turn(2, 0, 0), turn(2, 0, -1), turn(2, 0, 1), mussel(2, 2), (2, 3), (2, 4)",
                new int[] {x.turn(2, 0, 0), x.turn(2, 0, -1), x.turn(2, 0, 1), x.mussel(2, 2), x.mussel(2, 3), x.mussel(2, 4)},
                2, 1, 0, 1, -1, 1);
        answers(d, "turn(6, 0, 2), turn(0, 3, 2), turn(0, 0, 2), turn(0, 0, -2)",
                new int[] {x.turn(6, 0, 2), x.turn(0, 3, 2), x.turn(0, 0, 2), x.turn(0, 0, -2)},
                Edges.UNKNOWN, Edges.UNKNOWN, Edges.OUTSIDE, Edges.OUTSIDE);
    }

    @Holds(promise = 14, says = "A MUSSEL has another WEIGHT: which it had. UNKNOWN; OUTSIDE: weight (1 to 9).")
    static void grow(Due d) {
        RopeVote x = Town.hung();
        answers(d, "grow(1, 9), grow(1, 1), mussel(1, 1), mussel(1, 11), grow(6, 0), grow(0, 0), grow(0, 10)",
                new int[] {x.grow(1, 9), x.grow(1, 1), x.mussel(1, 1), x.mussel(1, 11), x.grow(6, 0), x.grow(0, 0), x.grow(0, 10)},
                3, 9, 1, 102, Edges.UNKNOWN, Edges.OUTSIDE, Edges.OUTSIDE);
    }

    // ---- promises 15 to 19: what would be

    @Holds(promise = 15, says = "SAY: what = 0 above, 1 below, in lowest terms (0 of 1). UNKNOWN: mussel, question; OUTSIDE.")
    static void say(Due d) {
        RopeVote x = Town.hung();
        // On question 1: 6 of 9 by the elder. All orders of six are 720: in lowest terms 1 of 1.
        int[] nobody = {0, 1};
        Town.saysAre(d, x, 1, nobody, new int[] {1, 1}, nobody, nobody, nobody, nobody);
        answers(d, "say(6, 0, 2), say(0, 3, 2), say(0, 0, 2), say(0, 0, -1)",
                new int[] {x.say(6, 0, 2), x.say(0, 3, 2), x.say(0, 0, 2), x.say(0, 0, -1)},
                Edges.UNKNOWN, Edges.UNKNOWN, Edges.OUTSIDE, Edges.OUTSIDE);
    }

    @Holds(promise = 16, says = "CHANCE: what = 0 above, 1 below, in lowest terms (0 of 1). UNKNOWN: question; OUTSIDE: tenths (0 to 10), what.")
    static void chance(Due d) {
        // Only if 0 holds and 1, which is as heavy, lets go; 2 pulls nothing.
        RopeVote x = Due.hung("m2+00,m2-00,m9000");
        Town.chanceIs(d, x, 3, 21, 100);
        Town.chanceIs(d, x, 2, 4, 25);
        Town.chanceIs(d, x, 10, 0, 1);
        answers(d, "chance(3, 11, 2), chance(0, 11, 0), chance(0, -1, 0), chance(0, 3, 2), chance(0, 3, -1)",
                new int[] {x.chance(3, 11, 2), x.chance(0, 11, 0), x.chance(0, -1, 0), x.chance(0, 3, 2), x.chance(0, 3, -1)},
                Edges.UNKNOWN, Edges.OUTSIDE, Edges.OUTSIDE, Edges.OUTSIDE, Edges.OUTSIDE);
    }

    @Holds(promise = 17, says = "CUTS: what = 0 how few, 1 which, as bits; NONE. UNKNOWN: question; OUTSIDE: out (1, 0, -1), what.")
    static void cuts(Due d) {
        RopeVote x = Town.hung();
        Town.cutsAre(d, x, 2, 1, 0, 0);
        Town.cutsAre(d, x, 2, 0, 1, 1);
        x.cut(1);
        Town.cutsAre(d, x, 2, 1, Edges.NONE, Edges.NONE);
        answers(d, "cuts(3, 2, 2), cuts(0, 2, 0), cuts(0, -2, 0), cuts(0, 0, 2), cuts(0, 0, -1)",
                new int[] {x.cuts(3, 2, 2), x.cuts(0, 2, 0), x.cuts(0, -2, 0), x.cuts(0, 0, 2), x.cuts(0, 0, -1)},
                Edges.UNKNOWN, Edges.OUTSIDE, Edges.OUTSIDE, Edges.OUTSIDE, Edges.OUTSIDE);
    }

    @Holds(promise = 18, says = "TURNS: what = 0 how few, 1 which, as bits; NONE. UNKNOWN: question; OUTSIDE: out (1, 0, -1), what; "
            + "STATE: fewTurns() was done 20 times.")
    static void fewTurns(Due d) {
        RopeVote x = Town.hung();
        // Mussels 0 and 1 alone: 0 and 6 on question 1, where the elder must turn; 4 and -6 on question 0, where both must.
        x.cut(2);
        Town.turnsAre(d, x, 1, 0, 1, 1 << 1);
        Town.turnsAre(d, x, 0, 0, 2, 3);
        x.cut(0);
        Town.turnsAre(d, x, 0, 1, Edges.NONE, Edges.NONE);
        for (int time = 7; time <= 20; time++) x.fewTurns(0, 0, 0);
        answers(d, "fewTurns(3, 2, 2), fewTurns(0, 2, 0), fewTurns(0, 0, 2), fewTurns(0, 0, 0)",
                new int[] {x.fewTurns(3, 2, 2), x.fewTurns(0, 2, 0), x.fewTurns(0, 0, 2), x.fewTurns(0, 0, 0)},
                Edges.UNKNOWN, Edges.OUTSIDE, Edges.OUTSIDE, Edges.STATE);
        d.is("count(11)", x.count(11), 20);
    }

    @Holds(promise = 19, says = "SETTLE: what = 0 how many, 1 behind how many first. OUTSIDE; STATE: no ROPE.")
    static void settle(Due d) {
        RopeVote x = Edges.page(Town.ROPE);
        d.is("settle(2)", x.settle(2), Edges.OUTSIDE);
        d.is("settle(0)", x.settle(0), Edges.STATE);
        x.rope();
        answers(d, "settle(0), settle(1), settle(2), settle(-1), count(4)",
                new int[] {x.settle(0), x.settle(1), x.settle(2), x.settle(-1), x.count(4)}, 2, 1, Edges.OUTSIDE, Edges.OUTSIDE, 0);
    }

    // ---- promises 20 to 22: what is seen

    @Holds(promise = 20, says = "It is SEEN: how much is. UNKNOWN: mussel, question; OUTSIDE: sum (as told, 200 more: 0 to 400); FULL.")
    static void see(Due d) {
        RopeVote x = Town.hung();
        answers(d, "see(0, 0, 194), see(6, 0, 401), see(0, 3, 401), see(0, 0, 401), see(0, 0, -1), see(0, 0, 190)",
                new int[] {x.see(0, 0, 194), x.see(6, 0, 401), x.see(0, 3, 401), x.see(0, 0, 401), x.see(0, 0, -1), x.see(0, 0, 190)},
                1, Edges.UNKNOWN, Edges.UNKNOWN, Edges.OUTSIDE, Edges.OUTSIDE, 2);
        d.is("never both, mussel(0, 20)", x.mussel(0, 20), 0);
        for (int many = 3; many <= 6; many++) d.is("see(5, 2, 0)", x.see(5, 2, 0), many);
        d.is("see(5, 2, 0)", x.see(5, 2, 0), Edges.FULL);
    }

    @Holds(promise = 21, says = "Nothing is SEEN any more: how much was.")
    static void forget(Due d) {
        RopeVote x = Town.hung();
        x.see(0, 0, 194);
        x.see(0, 0, 190);
        answers(d, "forget(), mussel(0, 20), count(8), forget()",
                new int[] {x.forget(), x.mussel(0, 20), x.count(8), x.forget()}, 2, 7, 0, 0);
    }

    @Holds(promise = 22, says = "TIDES: what = 0 how often, 1 all SUMS (told as 10000 more), 2 the SEED then. "
            + "OUTSIDE: times (1 to 60), seed (0 at least), what; STATE: no ROPE.")
    static void tides(Due d) {
        RopeVote x = Edges.page(Town.ROPE);
        d.is("tides(0, 0, 0)", x.tides(0, 0, 0), Edges.OUTSIDE);
        d.is("tides(1, 0, 0)", x.tides(1, 0, 0), Edges.STATE);
        x.rope();
        Town.tidesAre(d, x, 3, 0, 1, 9977, 1109335178);
        answers(d, "tides(0, 0, 0), tides(61, 0, 0), tides(1, -1, 0), tides(1, 0, 3), tides(1, 0, -1)",
                new int[] {x.tides(0, 0, 0), x.tides(61, 0, 0), x.tides(1, -1, 0), x.tides(1, 0, 3), x.tides(1, 0, -1)},
                Edges.OUTSIDE, Edges.OUTSIDE, Edges.OUTSIDE, Edges.OUTSIDE, Edges.OUTSIDE);
    }

    // ---- promises 23 to 26: what is told of all

    @Holds(promise = 23, says = "An IMAGE is kept (one; the latest): how many TIDES there were. STATE: no ROPE.")
    static void image(Due d) {
        RopeVote x = Edges.page(Town.ROPE);
        d.is("image()", x.image(), Edges.STATE);
        x.rope();
        d.is("image()", x.image(), 0);
        x.tide();
        x.tide();
        d.is("image(), the latest", x.image(), 2);
        x.tide();
        d.is("restore()", x.restore(), 2);
    }

    @Holds(promise = 24, says = "It goes on from the IMAGE: how many TIDES there were. STATE: none was kept, or there is another ROPE since.")
    static void restore(Due d) {
        RopeVote x = Town.hung();
        d.is("none was kept, restore()", x.restore(), Edges.STATE);
        x.image();
        for (int time = 0; time < 3; time++) {
            x.tide();
            d.is("restore()", x.restore(), 0);
            Town.leansAre(d, "restored", x, Town.LEANS);
        }
        d.is("it goes on, tide()", x.tide(), 1);
        Town.leansAre(d, "it goes on", x, Town.LEANS_BEHIND_A_TIDE);
        Due.write(x, Town.ROPE);
        x.rope();
        d.is("another rope, though it reads the same, restore()", x.restore(), Edges.STATE);
    }

    @Holds(promise = 25, says = "How many: 0 MUSSELS, 1 that are FELT at the rail, 2 THREADS that are CUT, 3 all WEIGHTS, 4 TIDES, "
            + "5 how often any QUESTION was asked, 6 CARRIED of these, 7 QUESTIONS that are CARRIED now, 8 what is SEEN, "
            + "9 letters of THE PAGE, 10 how often a ROPE was read, 11 how often fewTurns() was done. OUTSIDE.")
    static void count(Due d) {
        RopeVote x = Edges.two();
        Due.write(x, Town.ROPE);
        x.rope();
        x.ask(0);
        x.ask(1);
        x.ask(2);
        x.cut(5);
        x.cut(4);
        x.cut(3);
        x.see(0, 0, 0);
        x.see(0, 1, 0);
        for (int time = 0; time < 4; time++) x.fewTurns(0, 0, 0);
        for (int time = 0; time < 5; time++) x.tide();
        Due.write(x, "m1+-0,");
        // Behind a tide 0 to 2 lean for, for, for on question 0 (4 + 6 - 2), for, for, against on 1 (4 + 6 + 2), on 2 -4 - 2.
        int[] due = {6, 3, 3, 21, 5, 3, 1, 2, 2, 6, 2, 4};
        for (int what = 0; what <= 11; what++) d.is("count(" + what + ")", x.count(what), due[what]);
        d.is("count(12)", x.count(12), Edges.OUTSIDE);
        d.is("count(-1)", x.count(-1), Edges.OUTSIDE);
    }

    @Holds(promise = 26, says = "h is 1171, then for each of these numbers, in order, 31 times h, and it (as longs, wrapping): of each MUSSEL what "
            + "mussel() tells for 0 to 7, 10 to 12 and 20 to 22; with a ROPE of each QUESTION what question() tells for 0 to 5, "
            + "for each MUSSEL what say() tells for 0 and 1, what chance() tells of 3 tenths for 0 and 1, what cuts() tells to be "
            + "CARRIED for 0 and 1; then what settle() tells for 0 and 1; letters of THE PAGE; what count() tells for 0 to 11.")
    static void digest(Due d) {
        // Every number by hand: one mussel for question 0, one against 1, which settles at once.
        int[] numbers = {
            0, 2, 1, 0, 0, 1, 1, 0, 102, 100, 100, 7, 7, 7, 1, 1, 0, -1, 0, 1, 1, 0, 100, 98, 100, 7, 7, 7,
            202, 1, 0, 0, 1, 0, 1, 1, 0, 1, 7, 10, 0, 0,
            198, -1, 0, 0, 0, 1, 0, 1, 0, 1, 0, 1, -1, -1,
            200, 0, 0, 0, 0, 0, 0, 1, 0, 1, 0, 1, -1, -1,
            2, 1, 'm', '9', 2, 2, 0, 3, 0, 0, 0, 1, 0, 2, 1, 0};
        long h = 1171;
        for (int number : numbers) h = 31 * h + number;
        RopeVote x = Due.hung("m2+00,e10-0");
        Due.write(x, "m9");
        d.is("digest()", x.digest(), h);
    }
}
