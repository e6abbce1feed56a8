/** Boundary cases of promises 1 to 5: a new object, the page, the rope that is read from it. */
final class PageEdges {
    private static final String LONGEST = "m1+++,e2---,c3000,k4+-0,s5-0+,m60+-,e7++-,c9--+";

    private PageEdges() {
    }

    // ---- promise 1

    @Holds(promise = 1, says = "No ROPE.")
    static void aNewOneHasNoRope(Due d) {
        d.is("count(0)", Edges.none().count(0), 0);
        d.is("mussel(0, 0)", Edges.none().mussel(0, 0), Edges.UNKNOWN);
        d.is("question(0, 0)", Edges.none().question(0, 0), Edges.UNKNOWN);
        d.is("tide()", Edges.none().tide(), Edges.STATE);
    }

    @Holds(promise = 1, says = "No ROPE.")
    static void aNewOneHasAnEmptyPage(Due d) {
        d.is("count(9)", Edges.none().count(9), 0);
        d.is("fault()", Edges.none().fault(), 0);
        d.is("blank()", Edges.none().blank(), 0);
    }

    @Holds(promise = 1, says = "No ROPE.")
    static void aNewOneHasNothingSeenAndNoImage(Due d) {
        d.is("count(8)", Edges.none().count(8), 0);
        d.is("forget()", Edges.none().forget(), 0);
        d.is("restore()", Edges.none().restore(), Edges.STATE);
    }

    @Holds(promise = 1, says = "No ROPE.")
    static void aNewOneKnowsNothingOfOthers(Due d) {
        RopeVote other = Edges.busy();
        RopeVote x = Edges.none();
        long before = other.digest();
        for (int what = 0; what <= 11; what++) d.is("count(" + what + ")", x.count(what), 0);
        x.letter('m');
        d.is("the other's digest()", other.digest(), before);
    }

    // ---- promise 2

    @Holds(promise = 2, says = "OUTSIDE: code (32 to 126)")
    static void theLeastCode(Due d) {
        d.is("letter(32)", Edges.none().letter(32), 1);
        Edges.refused(d, "letter(31)", Edges::none, x -> x.letter(31), Edges.OUTSIDE);
    }

    @Holds(promise = 2, says = "OUTSIDE: code (32 to 126)")
    static void theGreatestCode(Due d) {
        d.is("letter(126)", Edges.none().letter(126), 1);
        Edges.refused(d, "letter(127)", Edges::none, x -> x.letter(127), Edges.OUTSIDE);
    }

    @Holds(promise = 2, says = "OUTSIDE: code (32 to 126)")
    static void allCodesBetween(Due d) {
        for (int code = 32; code <= 126; code++) d.is("letter(" + code + ")", Edges.none().letter(code), 1);
    }

    @Holds(promise = 2, says = "OUTSIDE: code (32 to 126)")
    static void codesFarOutside(Due d) {
        for (int code : Edges.around(32, 126)) {
            Edges.refused(d, "letter(" + code + ")", Edges::busy, x -> x.letter(code), Edges.OUTSIDE);
        }
        Edges.refused(d, "letter(256 + 109)", Edges::busy, x -> x.letter(256 + 109), Edges.OUTSIDE);
        Edges.refused(d, "letter(0)", Edges::busy, x -> x.letter(0), Edges.OUTSIDE);
    }

    private static RopeVote fullPage() {
        RopeVote x = Edges.two();
        Due.write(x, LONGEST + ",m1");
        return x;
    }

    @Holds(promise = 2, says = "FULL: above 50")
    static void theFiftiethLetter(Due d) {
        RopeVote x = Edges.none();
        for (int many = 1; many <= 50; many++) d.is("letter, the " + many + "th", x.letter('m'), many);
        d.is("letter, the 51st", x.letter('m'), Edges.FULL);
        d.is("letter, again", x.letter('m'), Edges.FULL);
        d.is("count(9)", x.count(9), 50);
    }

    @Holds(promise = 2, says = "FULL: above 50")
    static void aFullPageStays(Due d) {
        Edges.refused(d, "letter(120)", PageEdges::fullPage, x -> x.letter('x'), Edges.FULL);
    }

    @Holds(promise = 2, says = "of several the first as told by each call")
    static void aWrongCodeOnAFullPage(Due d) {
        Edges.refused(d, "letter(31)", PageEdges::fullPage, x -> x.letter(31), Edges.OUTSIDE);
        Edges.refused(d, "letter(127)", PageEdges::fullPage, x -> x.letter(127), Edges.OUTSIDE);
    }

    @Holds(promise = 2, says = "how many THE PAGE has")
    static void aFullPageMadeEmpty(Due d) {
        RopeVote x = fullPage();
        x.blank();
        d.is("letter behind blank()", x.letter('m'), 1);
        RopeVote y = Edges.page(LONGEST);
        y.rope();
        d.is("letter behind rope()", y.letter('m'), 1);
    }

    // ---- promise 3

    @Holds(promise = 3, says = "how many letters it had")
    static void blankOfAnEmptyPage(Due d) {
        Edges.told(d, "blank()", Edges::none, x -> x.blank(), 0);
        Edges.told(d, "blank() behind rope()", Edges::two, x -> x.blank(), 0);
        RopeVote y = Edges.busy();
        y.blank();
        d.is("blank() again", y.blank(), 0);
    }

    @Holds(promise = 3, says = "how many letters it had")
    static void blankOfOneLetter(Due d) {
        d.is("blank()", Edges.page("x").blank(), 1);
    }

    @Holds(promise = 3, says = "how many letters it had")
    static void blankOfAFullPage(Due d) {
        RopeVote x = fullPage();
        d.is("blank()", x.blank(), 50);
        d.is("count(9)", x.count(9), 0);
        d.is("fault()", x.fault(), 0);
    }

    @Holds(promise = 3, says = "THE PAGE is empty")
    static void blankLeavesNoLetter(Due d) {
        RopeVote x = Edges.page("x");
        x.blank();
        d.is("letter", x.letter('m'), 1);
        d.is("fault()", x.fault(), 1);
    }

    @Holds(promise = 3, says = "THE PAGE is empty")
    static void blankLeavesTheRope(Due d) {
        RopeVote x = Edges.two();
        Due.write(x, "k1");
        x.blank();
        Edges.same(d, "blank() takes the page alone", x, Edges.two());
    }

    // ---- promise 4

    private static boolean fits(int place, int code) {
        String kinds = "mecks";
        String weights = "123456789";
        String signs = "+-0";
        if (place >= 47) return false;
        String[] taken = {kinds, weights, signs, signs, signs, ","};
        return taken[place % 6].indexOf(code) >= 0;
    }

    @Holds(promise = 4, says = "The place (from 0) of the first letter of THE PAGE that no ROPE has there")
    static void everyLetterAtEveryPlace(Due d) {
        for (int place = 0; place < 47; place++) {
            for (int code = 32; code <= 126; code++) {
                String text = LONGEST.substring(0, place) + (char) code;
                d.is("fault() of " + text, Edges.page(text).fault(), fits(place, code) ? place + 1 : place);
            }
        }
    }

    @Holds(promise = 4, says = "The place (from 0) of the first letter of THE PAGE that no ROPE has there")
    static void noNinthMussel(Due d) {
        for (int code = 32; code <= 126; code++) {
            d.is("fault() of a 48th letter, " + code, Edges.page(LONGEST + (char) code).fault(), 47);
        }
        d.is("fault() of a full page", Edges.page(LONGEST + ",m1").fault(), 47);
    }

    @Holds(promise = 4, says = "how many letters it has, if there is none")
    static void faultOfAnEmptyPage(Due d) {
        Edges.told(d, "fault()", Edges::none, x -> x.fault(), 0);
        Edges.told(d, "fault() with a rope", Edges::two, x -> x.fault(), 0);
    }

    @Holds(promise = 4, says = "how many letters it has, if there is none")
    static void faultOfTextsThatCanGoOn(Due d) {
        for (int many = 1; many <= 47; many++) {
            d.is("fault() of " + many + " letters", Edges.page(LONGEST.substring(0, many)).fault(), many);
        }
    }

    @Holds(promise = 4, says = "behind those ahead of it")
    static void theFirstOfSeveralFaults(Due d) {
        d.is("fault() of 'xx'", Edges.page("xx").fault(), 0);
        d.is("fault() of 'm0x'", Edges.page("m0x").fault(), 1);
        d.is("fault() of 'm1+++;m1+++;'", Edges.page("m1+++;m1+++;").fault(), 5);
        d.is("fault() of 50 blanks", Edges.page(" ".repeat(50)).fault(), 0);
    }

    @Holds(promise = 4, says = "they change nothing")
    static void faultOnlyTells(Due d) {
        Edges.told(d, "fault() of 'c9+'", Edges::busy, x -> x.fault(), 3);
        Edges.told(d, "fault() of a full page", PageEdges::fullPage, x -> x.fault(), 47);
    }

    // ---- promise 5

    @Holds(promise = 5, says = "two to eight MUSSELS")
    static void oneMusselIsNoRope(Due d) {
        Edges.refused(d, "rope() of one", () -> Edges.page("m1+-0"), x -> x.rope(), Edges.STATE);
        d.is("rope() of two", Edges.page("m1+-0,m1+-0").rope(), 2);
    }

    @Holds(promise = 5, says = "two to eight MUSSELS")
    static void allThatAreRopes(Due d) {
        for (int many = 2; many <= 8; many++) {
            RopeVote x = Edges.page(LONGEST.substring(0, 6 * many - 1));
            d.is("rope() of " + many, x.rope(), many);
            d.is("count(0)", x.count(0), many);
            d.is("count(1)", x.count(1), many);
        }
    }

    @Holds(promise = 5, says = "two to eight MUSSELS")
    static void nineMusselsAreNoRope(Due d) {
        for (String more : new String[] {",", ",m", ",m1"}) {
            Edges.refused(d, "rope() of eight and '" + more + "'", () -> Edges.page(LONGEST + more), x -> x.rope(), Edges.STATE);
        }
    }

    @Holds(promise = 5, says = "STATE: it is none")
    static void textsThatEndTooSoon(Due d) {
        for (int many = 0; many <= 47; many++) {
            boolean whole = many >= 11 && many % 6 == 5;
            String text = LONGEST.substring(0, many);
            d.is("rope() of " + text, Edges.page(text).rope(), whole ? (many + 1) / 6 : Edges.STATE);
        }
    }

    @Holds(promise = 5, says = "STATE: it is none")
    static void oneWrongLetterAnywhere(Due d) {
        String text = LONGEST.substring(0, 11);
        for (int place = 0; place < 11; place++) {
            for (int code = 32; code <= 126; code++) {
                String other = text.substring(0, place) + (char) code + text.substring(place + 1);
                d.is("rope() of " + other, Edges.page(other).rope(), fits(place, code) ? 2 : Edges.STATE);
            }
        }
    }

    @Holds(promise = 5, says = "the WEIGHT (1 to 9)")
    static void theLeastAndTheGreatestWeight(Due d) {
        RopeVote x = Due.hung("m1+++,m9+++");
        d.is("mussel(0, 1)", x.mussel(0, 1), 1);
        d.is("mussel(1, 1)", x.mussel(1, 1), 9);
        Edges.refused(d, "rope() of weight 0", () -> Edges.page("m0+++,m9+++"), y -> y.rope(), Edges.STATE);
        Edges.refused(d, "rope() of weight 10", () -> Edges.page("m1+++,m10+++"), y -> y.rope(), Edges.STATE);
    }

    @Holds(promise = 5, says = "STATE: it is none")
    static void ropeOfAnEmptyPage(Due d) {
        Edges.refused(d, "rope()", Edges::none, x -> x.rope(), Edges.STATE);
        Edges.refused(d, "rope() with a rope", Edges::two, x -> x.rope(), Edges.STATE);
    }

    @Holds(promise = 5, says = "they change nothing")
    static void aRefusedRopeLeavesTheOtherOne(Due d) {
        Edges.refused(d, "rope() of 'c9+'", Edges::busy, x -> x.rope(), Edges.STATE);
        Edges.refused(d, "rope() of a full page", PageEdges::fullPage, x -> x.rope(), Edges.STATE);
    }

    @Holds(promise = 5, says = "another one is gone, with all that was")
    static void nothingOfTheOtherRopeIsLeft(Due d) {
        RopeVote x = Edges.busy();
        x.blank();
        Due.write(x, Edges.TWO);
        d.is("rope()", x.rope(), 2);
        RopeVote fresh = Edges.two();
        // How often a rope was read and fewTurns() was done goes on; all else is as on a new object.
        for (int what = 0; what <= 9; what++) d.is("count(" + what + ")", x.count(what), fresh.count(what));
        for (int m = 0; m < 2; m++) {
            for (int what = 0; what <= 22; what++) d.is("mussel(" + m + ", " + what + ")", x.mussel(m, what), fresh.mussel(m, what));
        }
        for (int q = 0; q < 3; q++) {
            for (int what = 0; what <= 5; what++) d.is("question(" + q + ", " + what + ")", x.question(q, what), fresh.question(q, what));
        }
        d.is("forget()", x.forget(), 0);
        d.is("mussel(2, 0)", x.mussel(2, 0), Edges.UNKNOWN);
        d.is("cut(2)", x.cut(2), Edges.UNKNOWN);
        d.is("restore()", x.restore(), Edges.STATE);
    }

    @Holds(promise = 5, says = "then no THREAD is cut, it is TIDE 0")
    static void allThreadsOfAnotherRopeAreWhole(Due d) {
        RopeVote x = Edges.eight();
        for (int thread = 0; thread < 8; thread++) x.cut(thread);
        x.tide();
        Due.write(x, Edges.EIGHT);
        d.is("rope()", x.rope(), 8);
        d.is("count(1)", x.count(1), 8);
        d.is("count(2)", x.count(2), 0);
        d.is("count(4)", x.count(4), 0);
        for (int m = 0; m < 8; m++) d.is("mussel(" + m + ", 6)", x.mussel(m, 6), 1);
    }

    @Holds(promise = 5, says = "another one is gone, with all that was")
    static void eachKindInThePlaceOfEach(Due d) {
        String kinds = "mecks";
        for (int was = 0; was < 5; was++) {
            for (int is = 0; is < 5; is++) {
                RopeVote x = Due.hung(kinds.charAt(was) + "1+++," + kinds.charAt(was) + "1+++");
                Due.write(x, kinds.charAt(is) + "1+++," + kinds.charAt(is) + "1+++");
                x.rope();
                d.is("mussel(0, 0)", x.mussel(0, 0), is);
                d.is("mussel(1, 0)", x.mussel(1, 0), is);
            }
        }
    }

    @Holds(promise = 5, says = "THE PAGE is empty then")
    static void thePageBehindRope(Due d) {
        RopeVote x = Edges.page(LONGEST);
        x.rope();
        d.is("count(9)", x.count(9), 0);
        d.is("rope() again", x.rope(), Edges.STATE);
        d.is("count(10)", x.count(10), 1);
    }
}
