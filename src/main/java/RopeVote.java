/** Mussels that vote with the rope they hang on; the document ../shared/DOC.md says what each call does. */
public final class RopeVote {
    public static final int NONE = -1, UNKNOWN = -101, OUTSIDE = -102, STATE = -103, FULL = -104;

    private static final int MOST_MUSSELS = 8, QUESTIONS = 3, LEANS = 3;
    private static final int MOST_LETTERS = 50, LETTERS_A_MUSSEL = 6, FEWEST_ROPE_LETTERS = 11, MOST_ROPE_LETTERS = 47;
    private static final int MOST_ASKED = 99, MOST_TIDES = 999, MOST_SEEN = 6, MOST_FEW_TURNS = 20, MOST_TIMES = 60;
    private static final int PULL_TOLD = 100, SUM_TOLD = 200, MOST_SUM_TOLD = 400, ALL_SUMS_TOLD = 10000;
    private static final int LAST_COUNT = 11, DIGEST_TENTHS = 3;
    // Eight mussels settle behind eight tides at the latest (SettleBoundTest tries all leans): this is far above.
    private static final int MOST_CODES = 64;
    // Euclid's steps for numbers up to 10 to the 8 stay under 40.
    private static final int MOST_DIVISIONS = 64;
    private static final long DIGEST_START = 1171;
    private static final String KIND_LETTERS = "mecks";
    private static final int[] FACTORIALS = {1, 1, 2, 6, 24, 120, 720, 5040, 40320};
    private static final int[] DIGESTED_OF_MUSSEL = {0, 1, 2, 3, 4, 5, 6, 7, 10, 11, 12, 20, 21, 22};

    private final Page page;
    private final Rope rope;
    private final Standing now;
    private final Standing kept;
    // What would be is tried here, so that no question of that sort touches what is.
    private final Standing trial;
    private final int[] subsetSums;
    private final int[] carriedBySize;
    private final int[] sumsByLean;
    private final long[] leanCodes;
    private boolean imageKept;
    private int ropesRead;
    private int fewTurnsDone;

    public RopeVote() {
        page = new Page();
        rope = new Rope();
        now = new Standing();
        kept = new Standing();
        trial = new Standing();
        subsetSums = new int[1 << MOST_MUSSELS];
        carriedBySize = new int[MOST_MUSSELS + 1];
        sumsByLean = new int[LEANS];
        leanCodes = new long[MOST_CODES];
    }

    // ---- the rope

    public int letter(int code) {
        if (code < 32 || code > 126) return OUTSIDE;
        if (page.length >= MOST_LETTERS) return FULL;
        page.letters[page.length] = code;
        page.length++;
        return page.length;
    }

    public int blank() {
        int had = page.length;
        page.length = 0;
        return had;
    }

    public int fault() {
        return page.firstFault();
    }

    public int rope() {
        if (!page.readsAsRope()) return STATE;
        now.clearAll();
        rope.size = (page.length + 1) / LETTERS_A_MUSSEL;
        for (int m = 0; m < rope.size; m++) {
            rope.hang(m, page.kindAt(m));
            now.weights[m] = page.weightAt(m);
            for (int q = 0; q < QUESTIONS; q++) now.leans[q][m] = page.leanAt(m, q);
        }
        page.length = 0;
        imageKept = false;
        ropesRead++;
        return rope.size;
    }

    // ---- mussels, questions

    public int mussel(int mussel, int what) {
        if (!rope.has(mussel)) return UNKNOWN;
        if (what >= 10 && what < 10 + QUESTIONS) return PULL_TOLD + rope.pullOf(now, mussel, what - 10);
        if (what >= 20 && what < 20 + QUESTIONS) return leansLeft(mussel, what - 20);
        switch (what) {
            case 0: return rope.kindOf(mussel).number();
            case 1: return now.weights[mussel];
            case 2: case 3: case 4: return now.leans[what - 2][mussel];
            case 5: return mussel < rope.feltIn(now) ? 1 : 0;
            case 6: return 1 - now.cutThreads[mussel];
            case 7: return bestQuestion(mussel);
            default: return OUTSIDE;
        }
    }

    public int as(int mussel, int kind) {
        if (!rope.has(mussel)) return UNKNOWN;
        if (kind < 0 || kind >= KIND_LETTERS.length()) return OUTSIDE;
        return isOfKind(rope.kindOf(mussel), kind) ? mussel : NONE;
    }

    public int question(int question, int what) {
        if (!isQuestion(question)) return UNKNOWN;
        switch (what) {
            case 0: return SUM_TOLD + rope.sumOf(now, question);
            case 1: return outcomeOf(rope.sumOf(now, question));
            case 2: return now.asked[question];
            case 3: return now.carried[question];
            case 4: return howManyLean(question, 1);
            case 5: return howManyLean(question, -1);
            default: return OUTSIDE;
        }
    }

    // ---- what is done

    public int ask(int question) {
        if (!isQuestion(question)) return UNKNOWN;
        if (now.asked[question] >= MOST_ASKED) return FULL;
        int outcome = outcomeOf(rope.sumOf(now, question));
        now.asked[question]++;
        if (outcome > 0) now.carried[question]++;
        return outcome < 0 ? 2 : outcome;
    }

    public int tide() {
        if (rope.size == 0) return STATE;
        if (now.tideCount >= MOST_TIDES) return FULL;
        rope.drift(now);
        now.tideCount++;
        return now.tideCount;
    }

    public int cut(int thread) {
        if (!rope.has(thread)) return UNKNOWN;
        if (now.cutThreads[thread] == 1) return STATE;
        now.cutThreads[thread] = 1;
        return rope.feltIn(now);
    }

    public int tie(int thread) {
        if (!rope.has(thread)) return UNKNOWN;
        if (now.cutThreads[thread] == 0) return STATE;
        now.cutThreads[thread] = 0;
        return rope.feltIn(now);
    }

    public int turn(int mussel, int question, int lean) {
        if (!rope.has(mussel) || !isQuestion(question)) return UNKNOWN;
        if (!isWay(lean)) return OUTSIDE;
        int before = now.leans[question][mussel];
        now.leans[question][mussel] = lean;
        return before + 1;
    }

    public int grow(int mussel, int weight) {
        if (!rope.has(mussel)) return UNKNOWN;
        if (weight < 1 || weight > 9) return OUTSIDE;
        int before = now.weights[mussel];
        now.weights[mussel] = weight;
        return before;
    }

    // ---- what would be

    public int say(int mussel, int question, int what) {
        if (!rope.has(mussel) || !isQuestion(question)) return UNKNOWN;
        if (!isHalf(what)) return OUTSIDE;
        int felt = rope.feltIn(now);
        return inLowestTerms(ordersDecided(mussel, question, felt), FACTORIALS[felt], what);
    }

    public int chance(int question, int tenths, int what) {
        if (!isQuestion(question)) return UNKNOWN;
        if (tenths < 0 || tenths > 10 || !isHalf(what)) return OUTSIDE;
        int felt = rope.feltIn(now);
        return inLowestTerms(partsCarried(question, tenths, felt), power(10, felt), what);
    }

    public int cuts(int question, int out, int what) {
        if (!isQuestion(question)) return UNKNOWN;
        if (!isWay(out) || !isHalf(what)) return OUTSIDE;
        return toldOfBits(fewestCut(question, out), what);
    }

    public int fewTurns(int question, int out, int what) {
        if (!isQuestion(question)) return UNKNOWN;
        if (!isWay(out) || !isHalf(what)) return OUTSIDE;
        if (fewTurnsDone >= MOST_FEW_TURNS) return STATE;
        fewTurnsDone++;
        return toldOfBits(fewestTurned(question, out), what);
    }

    public int settle(int what) {
        if (!isHalf(what)) return OUTSIDE;
        if (rope.size == 0) return STATE;
        int many = tidesTillAgain();
        return what == 0 ? many : firstLike(many);
    }

    // ---- what is seen

    public int see(int mussel, int question, int sum) {
        if (!rope.has(mussel) || !isQuestion(question)) return UNKNOWN;
        if (sum < 0 || sum > MOST_SUM_TOLD) return OUTSIDE;
        if (now.seenCount >= MOST_SEEN) return FULL;
        now.addSeen(mussel, question, sum - SUM_TOLD);
        return now.seenCount;
    }

    public int forget() {
        int had = now.seenCount;
        now.seenCount = 0;
        return had;
    }

    public int tides(int times, int seed, int what) {
        if (times < 1 || times > MOST_TIMES || seed < 0 || what < 0 || what > 2) return OUTSIDE;
        if (rope.size == 0) return STATE;
        trial.takeFrom(now);
        int drawn = seed;
        int carried = 0;
        int sums = 0;
        for (int time = 0; time < times; time++) {
            drawn = nextSeed(drawn);
            int question = drawOf(drawn, QUESTIONS);
            int sum = rope.sumOf(trial, question);
            sums += sum;
            if (sum > 0) carried++;
            drawn = nextSeed(drawn);
            trial.turnRound(drawOf(drawn, rope.size), question);
            rope.drift(trial);
        }
        if (what == 0) return carried;
        return what == 1 ? ALL_SUMS_TOLD + sums : drawn;
    }

    // ---- what is told of all

    public int image() {
        if (rope.size == 0) return STATE;
        kept.takeFrom(now);
        imageKept = true;
        return now.tideCount;
    }

    public int restore() {
        if (!imageKept) return STATE;
        now.takeFrom(kept);
        return now.tideCount;
    }

    public int count(int what) {
        switch (what) {
            case 0: return rope.size;
            case 1: return rope.feltIn(now);
            case 2: return totalOf(now.cutThreads);
            case 3: return totalOf(now.weights);
            case 4: return now.tideCount;
            case 5: return totalOf(now.asked);
            case 6: return totalOf(now.carried);
            case 7: return howManyCarriedNow();
            case 8: return now.seenCount;
            case 9: return page.length;
            case 10: return ropesRead;
            case LAST_COUNT: return fewTurnsDone;
            default: return OUTSIDE;
        }
    }

    public long digest() {
        long h = DIGEST_START;
        for (int m = 0; m < rope.size; m++) {
            for (int what : DIGESTED_OF_MUSSEL) h = mixed(h, mussel(m, what));
        }
        if (rope.size > 0) {
            for (int q = 0; q < QUESTIONS; q++) h = mixedQuestion(h, q);
            h = mixed(h, settle(0));
            h = mixed(h, settle(1));
        }
        for (int i = 0; i < page.length; i++) h = mixed(h, page.letters[i]);
        for (int what = 0; what <= LAST_COUNT; what++) h = mixed(h, count(what));
        return h;
    }

    private long mixedQuestion(long start, int question) {
        long h = start;
        for (int what = 0; what <= 5; what++) h = mixed(h, question(question, what));
        for (int m = 0; m < rope.size; m++) {
            h = mixed(h, say(m, question, 0));
            h = mixed(h, say(m, question, 1));
        }
        h = mixed(h, chance(question, DIGEST_TENTHS, 0));
        h = mixed(h, chance(question, DIGEST_TENTHS, 1));
        h = mixed(h, cuts(question, 1, 0));
        return mixed(h, cuts(question, 1, 1));
    }

    private static long mixed(long h, long number) {
        return 31 * h + number;
    }

    // ---- what arguments may be

    private boolean isQuestion(int question) {
        return rope.size > 0 && question >= 0 && question < QUESTIONS;
    }

    private static boolean isWay(int way) {
        return way >= -1 && way <= 1;
    }

    private static boolean isHalf(int what) {
        return what == 0 || what == 1;
    }

    // ---- counts

    private static int totalOf(int[] row) {
        int total = 0;
        for (int number : row) total += number;
        return total;
    }

    private int howManyLean(int question, int lean) {
        int many = 0;
        for (int m = 0; m < rope.size; m++) {
            if (now.leans[question][m] == lean) many++;
        }
        return many;
    }

    private int howManyCarriedNow() {
        int many = 0;
        for (int q = 0; q < QUESTIONS; q++) {
            if (rope.sumOf(now, q) > 0) many++;
        }
        return many;
    }

    private static int outcomeOf(int sum) {
        if (sum > 0) return 1;
        return sum < 0 ? -1 : 0;
    }

    private static boolean isOfKind(Mussel mussel, int kind) {
        switch (kind) {
            case 0: return true;
            case 1: return mussel instanceof Elder;
            case 2: return mussel instanceof Crank;
            case 3: return mussel instanceof Knot;
            default: return mussel instanceof Swayed;
        }
    }

    // ---- say and chance

    /** Of all orders of those felt, in how many this one brings what is pulled for it above half. */
    private int ordersDecided(int mussel, int question, int felt) {
        if (mussel >= felt) return 0;
        fillSubsetSums(question, felt, true);
        int own = subsetSums[1 << mussel];
        int all = subsetSums[(1 << felt) - 1];
        int orders = 0;
        for (int ahead = 0; ahead < 1 << felt; ahead++) {
            boolean joinsBehind = (ahead >> mussel & 1) == 0;
            int before = subsetSums[ahead];
            if (joinsBehind && 2 * before <= all && 2 * (before + own) > all) {
                int many = Integer.bitCount(ahead);
                orders += FACTORIALS[many] * FACTORIALS[felt - 1 - many];
            }
        }
        return orders;
    }

    /** How many parts, of 10 to the number of those felt, have the question carried. */
    private int partsCarried(int question, int tenths, int felt) {
        fillSubsetSums(question, felt, false);
        for (int many = 0; many <= felt; many++) carriedBySize[many] = 0;
        for (int holding = 0; holding < 1 << felt; holding++) {
            if (subsetSums[holding] > 0) carriedBySize[Integer.bitCount(holding)]++;
        }
        int parts = 0;
        for (int many = 0; many <= felt; many++) {
            parts += carriedBySize[many] * power(10 - tenths, many) * power(tenths, felt - many);
        }
        return parts;
    }

    private void fillSubsetSums(int question, int felt, boolean onlyFor) {
        subsetSums[0] = 0;
        for (int m = 0; m < felt; m++) {
            int pull = rope.pullOf(now, m, question);
            if (onlyFor && pull < 0) pull = 0;
            int bit = 1 << m;
            for (int subset = 0; subset < bit; subset++) subsetSums[bit + subset] = subsetSums[subset] + pull;
        }
    }

    private static int power(int base, int exponent) {
        int product = 1;
        for (int i = 0; i < exponent; i++) product *= base;
        return product;
    }

    private static int inLowestTerms(int above, int below, int what) {
        int common = greatestDivisor(above, below);
        // Nothing of nothing is told as 0 of 1, too.
        if (common == 0) return what;
        return (what == 0 ? above : below) / common;
    }

    private static int greatestDivisor(int one, int other) {
        int greater = one;
        int rest = other;
        for (int step = 0; step < MOST_DIVISIONS && rest != 0; step++) {
            int next = greater % rest;
            greater = rest;
            rest = next;
        }
        return greater;
    }

    // ---- cuts and turns

    /** The threads to cut, as bits. Behind a cut nothing is felt, so a second one never does what the first did not. */
    private int fewestCut(int question, int out) {
        if (outcomeOf(rope.sumOf(now, question)) == out) return 0;
        trial.takeFrom(now);
        int felt = rope.feltIn(now);
        for (int thread = 0; thread < felt; thread++) {
            trial.cutThreads[thread] = 1;
            if (outcomeOf(rope.sumOf(trial, question)) == out) return 1 << thread;
            trial.cutThreads[thread] = 0;
        }
        return NONE;
    }

    /** The mussels to turn, as bits. Only those felt are tried: no other one changes a sum. */
    private int fewestTurned(int question, int out) {
        trial.takeFrom(now);
        int felt = rope.feltIn(now);
        for (int many = 0; many <= felt; many++) {
            for (int which = 0; which < 1 << felt; which++) {
                if (Integer.bitCount(which) == many && comesOutTurned(which, question, out)) return which;
            }
        }
        return NONE;
    }

    private boolean comesOutTurned(int which, int question, int out) {
        int ways = 1 << Integer.bitCount(which);
        for (int way = 0; way < ways; way++) {
            leanOtherwise(which, way, question);
            if (outcomeOf(rope.sumOf(trial, question)) == out) return true;
        }
        return false;
    }

    /** Each of those told leans one of the two other ways, by the next bit of 'way'; all others as now. */
    private void leanOtherwise(int which, int way, int question) {
        int choices = way;
        for (int m = 0; m < rope.size; m++) {
            int lean = now.leans[question][m];
            if ((which >> m & 1) == 1) {
                lean = (lean + 2 + (choices & 1)) % LEANS - 1;
                choices >>= 1;
            }
            trial.leans[question][m] = lean;
        }
    }

    private static int toldOfBits(int bits, int what) {
        if (bits == NONE) return NONE;
        return what == 0 ? Integer.bitCount(bits) : bits;
    }

    // ---- settling

    /** Behind how many tides all lean as they did before; leaves the codes of all leans up to then. */
    private int tidesTillAgain() {
        trial.takeFrom(now);
        leanCodes[0] = trial.leanCode();
        int many = 0;
        do {
            rope.drift(trial);
            many++;
            leanCodes[many] = trial.leanCode();
        } while (many < MOST_CODES - 1 && firstLike(many) == many);
        return many;
    }

    private int firstLike(int many) {
        int first = 0;
        while (first < many && leanCodes[first] != leanCodes[many]) first++;
        return first;
    }

    // ---- what is seen, which to ask

    /** The leans that all seen allows, as bits; leaves the sum by each lean in sumsByLean. */
    private int leansLeft(int mussel, int question) {
        trial.takeFrom(now);
        int bits = 0;
        for (int i = 0; i < LEANS; i++) {
            trial.leans[question][mussel] = 1 - i;
            sumsByLean[i] = rope.sumOf(trial, question);
            if (now.seenAllows(mussel, question, sumsByLean[i])) bits |= 1 << i;
        }
        return bits;
    }

    private int bestQuestion(int mussel) {
        int best = NONE;
        int fewest = LEANS + 1;
        for (int q = 0; q < QUESTIONS; q++) {
            int bits = leansLeft(mussel, q);
            int left = mostAlike(bits);
            if (left < Integer.bitCount(bits) && left < fewest) {
                best = q;
                fewest = left;
            }
        }
        return best;
    }

    /** How many of these leans one sum leaves, at worst. */
    private int mostAlike(int bits) {
        int most = 0;
        for (int i = 0; i < LEANS; i++) {
            int alike = 0;
            for (int j = 0; j < LEANS; j++) {
                boolean bothLeft = (bits >> i & bits >> j & 1) == 1;
                if (bothLeft && sumsByLean[i] == sumsByLean[j]) alike++;
            }
            most = Math.max(most, alike);
        }
        return most;
    }

    // ---- draws

    private static int nextSeed(int seed) {
        return (int) (1103515245L * seed + 12345L & 0x7fffffffL);
    }

    private static int drawOf(int seed, int many) {
        return many > 0 ? seed / 65536 % many : 0;
    }

    /** The letters that a rope is read from. */
    private static final class Page {
        final int[] letters = new int[MOST_LETTERS];
        int length;

        int firstFault() {
            int place = 0;
            while (place < length && fitsAt(place)) place++;
            return place;
        }

        // Every mussel takes as many letters, so what may stand at a place never depends on those ahead.
        private boolean fitsAt(int place) {
            if (place >= MOST_ROPE_LETTERS) return false;
            int code = letters[place];
            switch (place % LETTERS_A_MUSSEL) {
                case 0: return KIND_LETTERS.indexOf((char) code) >= 0;
                case 1: return code >= '1' && code <= '9';
                case 5: return code == ',';
                default: return code == '+' || code == '-' || code == '0';
            }
        }

        boolean readsAsRope() {
            boolean endsBehindMussel = length % LETTERS_A_MUSSEL == LETTERS_A_MUSSEL - 1;
            return length >= FEWEST_ROPE_LETTERS && endsBehindMussel && firstFault() == length;
        }

        int kindAt(int mussel) {
            return KIND_LETTERS.indexOf((char) letters[mussel * LETTERS_A_MUSSEL]);
        }

        int weightAt(int mussel) {
            return letters[mussel * LETTERS_A_MUSSEL + 1] - '0';
        }

        int leanAt(int mussel, int question) {
            int code = letters[mussel * LETTERS_A_MUSSEL + 2 + question];
            if (code == '+') return 1;
            return code == '-' ? -1 : 0;
        }
    }

    /** All that an image keeps of a rope. */
    private static final class Standing {
        final int[] weights = new int[MOST_MUSSELS];
        final int[][] leans = new int[QUESTIONS][MOST_MUSSELS];
        final int[] cutThreads = new int[MOST_MUSSELS];
        final int[] asked = new int[QUESTIONS];
        final int[] carried = new int[QUESTIONS];
        final int[] seenMussels = new int[MOST_SEEN];
        final int[] seenQuestions = new int[MOST_SEEN];
        final int[] seenSums = new int[MOST_SEEN];
        int seenCount;
        int tideCount;

        void turnRound(int mussel, int question) {
            int lean = leans[question][mussel];
            leans[question][mussel] = lean == 1 ? -1 : lean + 1;
        }

        void addSeen(int mussel, int question, int sum) {
            if (seenCount >= MOST_SEEN) return;
            seenMussels[seenCount] = mussel;
            seenQuestions[seenCount] = question;
            seenSums[seenCount] = sum;
            seenCount++;
        }

        boolean seenAllows(int mussel, int question, int sum) {
            for (int i = 0; i < seenCount; i++) {
                boolean ofIt = seenMussels[i] == mussel && seenQuestions[i] == question;
                if (ofIt && seenSums[i] != sum) return false;
            }
            return true;
        }

        /** One number for all leans: 3 to the 24 fits a long. */
        long leanCode() {
            long code = 0;
            for (int q = 0; q < QUESTIONS; q++) {
                for (int m = 0; m < MOST_MUSSELS; m++) code = code * LEANS + leans[q][m] + 1;
            }
            return code;
        }

        void clearAll() {
            for (int m = 0; m < MOST_MUSSELS; m++) {
                weights[m] = 0;
                cutThreads[m] = 0;
                for (int q = 0; q < QUESTIONS; q++) leans[q][m] = 0;
            }
            for (int q = 0; q < QUESTIONS; q++) {
                asked[q] = 0;
                carried[q] = 0;
            }
            seenCount = 0;
            tideCount = 0;
        }

        void takeFrom(Standing other) {
            System.arraycopy(other.weights, 0, weights, 0, MOST_MUSSELS);
            System.arraycopy(other.cutThreads, 0, cutThreads, 0, MOST_MUSSELS);
            for (int q = 0; q < QUESTIONS; q++) System.arraycopy(other.leans[q], 0, leans[q], 0, MOST_MUSSELS);
            System.arraycopy(other.asked, 0, asked, 0, QUESTIONS);
            System.arraycopy(other.carried, 0, carried, 0, QUESTIONS);
            System.arraycopy(other.seenMussels, 0, seenMussels, 0, MOST_SEEN);
            System.arraycopy(other.seenQuestions, 0, seenQuestions, 0, MOST_SEEN);
            System.arraycopy(other.seenSums, 0, seenSums, 0, MOST_SEEN);
            seenCount = other.seenCount;
            tideCount = other.tideCount;
        }
    }

    /** Which kinds hang on the rope, in order, and what they do in a standing, real or tried. */
    private static final class Rope {
        // One object a kind serves all mussels of it: what differs between them is in the standing.
        private final Mussel[] kinds = {new Mussel(), new Elder(), new Crank(), new Knot(), new Swayed()};
        private final int[] hung = new int[MOST_MUSSELS];
        int size;

        boolean has(int mussel) {
            return mussel >= 0 && mussel < size;
        }

        void hang(int mussel, int kind) {
            if (kind >= 0 && kind < kinds.length) hung[mussel] = kind;
        }

        Mussel kindOf(int mussel) {
            return kinds[hung[mussel]];
        }

        int feltIn(Standing standing) {
            int felt = 0;
            while (felt < size && standing.cutThreads[felt] == 0) felt++;
            return felt;
        }

        int sumOf(Standing standing, int question) {
            int felt = feltIn(standing);
            int sum = 0;
            for (int m = 0; m < felt; m++) sum += pullOf(standing, m, question);
            return sum;
        }

        int pullOf(Standing standing, int mussel, int question) {
            int ahead = leanAhead(standing, mussel, question);
            int behind = leanBehind(standing, mussel, question);
            int agreed = ahead == behind ? ahead : 0;
            return kindOf(mussel).pulled(standing.weights[mussel], standing.leans[question][mussel], agreed);
        }

        // A neighbour that is not there, or not on a whole thread, counts as one that leans neither way.
        private int leanAhead(Standing standing, int mussel, int question) {
            if (mussel < 1 || standing.cutThreads[mussel] != 0) return 0;
            return standing.leans[question][mussel - 1];
        }

        private int leanBehind(Standing standing, int mussel, int question) {
            int behind = mussel + 1;
            if (behind >= size || standing.cutThreads[behind] != 0) return 0;
            return standing.leans[question][behind];
        }

        /** What a tide does to all leans, at once. */
        void drift(Standing standing) {
            for (int q = 0; q < QUESTIONS; q++) {
                int leanedAhead = 0;
                for (int m = 0; m < size; m++) {
                    int leaned = standing.leans[q][m];
                    int ahead = standing.cutThreads[m] == 0 ? leanedAhead : 0;
                    int most = ahead + leaned + leanBehind(standing, m, q);
                    if (most != 0 && kindOf(m).driftsAlong()) standing.leans[q][m] = outcomeOf(most);
                    // The next one goes by how this one leaned before the tide.
                    leanedAhead = leaned;
                }
            }
        }
    }

    private static class Mussel {
        int number() {
            return 0;
        }

        /** 'agreed' is the way both neighbours lean, 0 if they do not lean one way. */
        int pulled(int weight, int lean, int agreed) {
            return weight * lean;
        }

        boolean driftsAlong() {
            return true;
        }
    }

    private static final class Elder extends Mussel {
        int number() {
            return 1;
        }

        int pulled(int weight, int lean, int agreed) {
            return 2 * weight * lean;
        }
    }

    private static final class Crank extends Mussel {
        int number() {
            return 2;
        }

        int pulled(int weight, int lean, int agreed) {
            return -weight * lean;
        }

        boolean driftsAlong() {
            return false;
        }
    }

    private static class Knot extends Mussel {
        int number() {
            return 3;
        }

        int pulled(int weight, int lean, int agreed) {
            return weight * agreed;
        }
    }

    private static final class Swayed extends Knot {
        int number() {
            return 4;
        }

        int pulled(int weight, int lean, int agreed) {
            return agreed != 0 ? weight * agreed : weight * lean;
        }
    }
}
