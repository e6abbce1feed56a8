import java.math.BigInteger;
import java.util.ArrayList;
import java.util.Arrays;
import java.util.List;
import java.util.regex.Matcher;
import java.util.regex.Pattern;

/**
 * The document once more, word by word and by trying everything: all orders, all subsets of threads, all leans.
 * It shares no code and no short cut with the class, so that the two can be held against each other.
 */
final class Model {
    private static final int NONE = -1, UNKNOWN = -101, OUTSIDE = -102, STATE = -103, FULL = -104;
    private static final Pattern ROPE =
            Pattern.compile("[mecks][1-9][-+0][-+0][-+0](,[mecks][1-9][-+0][-+0][-+0]){1,7}");

    private static final class One {
        char kind;
        int weight;
        int[] lean = new int[3];
        boolean cut;

        One copy() {
            One c = new One();
            c.kind = kind;
            c.weight = weight;
            c.lean = lean.clone();
            c.cut = cut;
            return c;
        }
    }

    private static final class Image {
        List<One> ones;
        int tides;
        int[] asked;
        int[] carried;
        List<int[]> seen;
    }

    private String page = "";
    private List<One> ones = new ArrayList<>();
    private int tides;
    private int[] asked = new int[3];
    private int[] carried = new int[3];
    private List<int[]> seen = new ArrayList<>();
    private Image image;
    private int ropes;
    private int turnsDone;

    private static List<One> copy(List<One> from) {
        List<One> to = new ArrayList<>();
        for (One o : from) to.add(o.copy());
        return to;
    }

    int letter(int code) {
        if (code < 32 || code > 126) return OUTSIDE;
        if (page.length() + 1 > 50) return FULL;
        page = page + (char) code;
        return page.length();
    }

    int blank() {
        int had = page.length();
        page = "";
        return had;
    }

    int fault() {
        for (int many = 1; many <= page.length(); many++) {
            Matcher m = ROPE.matcher(page.substring(0, many));
            if (!m.matches() && !m.hitEnd()) return many - 1;
        }
        return page.length();
    }

    int rope() {
        if (!ROPE.matcher(page).matches()) return STATE;
        ones = new ArrayList<>();
        for (String part : page.split(",")) {
            One o = new One();
            o.kind = part.charAt(0);
            o.weight = part.charAt(1) - '0';
            for (int q = 0; q < 3; q++) o.lean[q] = "-0+".indexOf(part.charAt(2 + q)) - 1;
            ones.add(o);
        }
        page = "";
        tides = 0;
        asked = new int[3];
        carried = new int[3];
        seen = new ArrayList<>();
        image = null;
        ropes++;
        return ones.size();
    }

    private static boolean felt(List<One> all, int m) {
        for (int t = 0; t <= m; t++) if (all.get(t).cut) return false;
        return true;
    }

    private static int feltMany(List<One> all) {
        int many = 0;
        for (int m = 0; m < all.size(); m++) if (felt(all, m)) many++;
        return many;
    }

    private static One ahead(List<One> all, int m) {
        return m == 0 || all.get(m).cut ? null : all.get(m - 1);
    }

    private static One behind(List<One> all, int m) {
        return m == all.size() - 1 || all.get(m + 1).cut ? null : all.get(m + 1);
    }

    private static int pull(List<One> all, int m, int q) {
        One me = all.get(m);
        One ahead = ahead(all, m);
        One behind = behind(all, m);
        boolean bothFor = ahead != null && behind != null && ahead.lean[q] == 1 && behind.lean[q] == 1;
        boolean bothAgainst = ahead != null && behind != null && ahead.lean[q] == -1 && behind.lean[q] == -1;
        int plain = me.lean[q] == 1 ? me.weight : me.lean[q] == -1 ? -me.weight : 0;
        if (me.kind == 'e') return plain + plain;
        if (me.kind == 'c') return -plain;
        if (me.kind == 'k' || me.kind == 's') {
            if (bothFor) return me.weight;
            if (bothAgainst) return -me.weight;
            return me.kind == 'k' ? 0 : plain;
        }
        return plain;
    }

    private static int sum(List<One> all, int q) {
        int sum = 0;
        for (int m = 0; m < all.size(); m++) if (felt(all, m)) sum += pull(all, m, q);
        return sum;
    }

    private static int outcome(int sum) {
        return Integer.compare(sum, 0);
    }

    private static List<One> afterTide(List<One> all) {
        List<One> then = copy(all);
        for (int m = 0; m < all.size(); m++) {
            if (all.get(m).kind == 'c') continue;
            for (int q = 0; q < 3; q++) {
                int most = all.get(m).lean[q];
                if (ahead(all, m) != null) most += ahead(all, m).lean[q];
                if (behind(all, m) != null) most += behind(all, m).lean[q];
                if (most > 0) then.get(m).lean[q] = 1;
                if (most < 0) then.get(m).lean[q] = -1;
            }
        }
        return then;
    }

    private boolean noMussel(int m) {
        return m < 0 || m >= ones.size();
    }

    private boolean noQuestion(int q) {
        return ones.isEmpty() || q < 0 || q > 2;
    }

    private int sumIf(int m, int q, int lean) {
        List<One> would = copy(ones);
        would.get(m).lean[q] = lean;
        return sum(would, q);
    }

    private List<Integer> leansLeft(int m, int q) {
        List<Integer> left = new ArrayList<>();
        for (int lean : new int[] {1, 0, -1}) {
            boolean fits = true;
            for (int[] s : seen) if (s[0] == m && s[1] == q && s[2] != 200 + sumIf(m, q, lean)) fits = false;
            if (fits) left.add(lean);
        }
        return left;
    }

    private int askFor(int m) {
        int best = NONE;
        int bestLeft = 99;
        for (int q = 0; q < 3; q++) {
            List<Integer> left = leansLeft(m, q);
            int worst = 0;
            for (int felt = -200; felt <= 200; felt++) {
                int many = 0;
                for (int lean : left) if (sumIf(m, q, lean) == felt) many++;
                worst = Math.max(worst, many);
            }
            if (worst < left.size() && worst < bestLeft) {
                best = q;
                bestLeft = worst;
            }
        }
        return best;
    }

    int mussel(int m, int what) {
        if (noMussel(m)) return UNKNOWN;
        One o = ones.get(m);
        if (what == 0) return "mecks".indexOf(o.kind);
        if (what == 1) return o.weight;
        if (what >= 2 && what <= 4) return o.lean[what - 2];
        if (what == 5) return felt(ones, m) ? 1 : 0;
        if (what == 6) return o.cut ? 0 : 1;
        if (what == 7) return askFor(m);
        if (what >= 10 && what <= 12) return 100 + pull(ones, m, what - 10);
        if (what >= 20 && what <= 22) {
            int bits = 0;
            for (int lean : leansLeft(m, what - 20)) bits += lean == 1 ? 1 : lean == 0 ? 2 : 4;
            return bits;
        }
        return OUTSIDE;
    }

    int as(int m, int kind) {
        if (noMussel(m)) return UNKNOWN;
        if (kind < 0 || kind > 4) return OUTSIDE;
        String kinds = "m";
        if (ones.get(m).kind == 'e') kinds = "me";
        if (ones.get(m).kind == 'c') kinds = "mc";
        if (ones.get(m).kind == 'k') kinds = "mk";
        if (ones.get(m).kind == 's') kinds = "mks";
        return kinds.indexOf("mecks".charAt(kind)) >= 0 ? m : NONE;
    }

    int question(int q, int what) {
        if (noQuestion(q)) return UNKNOWN;
        int leaningFor = 0;
        int leaningAgainst = 0;
        for (One o : ones) {
            if (o.lean[q] == 1) leaningFor++;
            if (o.lean[q] == -1) leaningAgainst++;
        }
        int[] told = {200 + sum(ones, q), outcome(sum(ones, q)), asked[q], carried[q], leaningFor, leaningAgainst};
        return what < 0 || what > 5 ? OUTSIDE : told[what];
    }

    int ask(int q) {
        if (noQuestion(q)) return UNKNOWN;
        if (asked[q] == 99) return FULL;
        asked[q]++;
        int out = outcome(sum(ones, q));
        if (out == 1) carried[q]++;
        return out == -1 ? 2 : out;
    }

    int tide() {
        if (ones.isEmpty()) return STATE;
        if (tides == 999) return FULL;
        ones = afterTide(ones);
        return ++tides;
    }

    int cut(int t) {
        if (noMussel(t)) return UNKNOWN;
        if (ones.get(t).cut) return STATE;
        ones.get(t).cut = true;
        return feltMany(ones);
    }

    int tie(int t) {
        if (noMussel(t)) return UNKNOWN;
        if (!ones.get(t).cut) return STATE;
        ones.get(t).cut = false;
        return feltMany(ones);
    }

    int turn(int m, int q, int lean) {
        if (noMussel(m) || noQuestion(q)) return UNKNOWN;
        if (lean != 1 && lean != 0 && lean != -1) return OUTSIDE;
        int had = ones.get(m).lean[q];
        ones.get(m).lean[q] = lean;
        return had + 1;
    }

    int grow(int m, int weight) {
        if (noMussel(m)) return UNKNOWN;
        if (weight < 1 || weight > 9) return OUTSIDE;
        int had = ones.get(m).weight;
        ones.get(m).weight = weight;
        return had;
    }

    private static int told(long above, long below, int what) {
        BigInteger a = BigInteger.valueOf(above);
        BigInteger b = BigInteger.valueOf(below);
        BigInteger common = a.gcd(b);
        return (what == 0 ? a : b).divide(common).intValueExact();
    }

    /** decided[i] grows by each order in which the i-th is the one; the last place counts the orders. */
    private static void joinAll(int[] pulls, boolean[] in, int joined, int added, int all, long[] decided) {
        if (joined == pulls.length) {
            decided[pulls.length]++;
            return;
        }
        for (int i = 0; i < pulls.length; i++) {
            if (in[i]) continue;
            in[i] = true;
            int then = added + Math.max(pulls[i], 0);
            if (2 * added <= all && 2 * then > all) {
                long[] below = new long[pulls.length + 1];
                joinAll(pulls, in, joined + 1, then, all, below);
                decided[i] += below[pulls.length];
                decided[pulls.length] += below[pulls.length];
            } else {
                joinAll(pulls, in, joined + 1, then, all, decided);
            }
            in[i] = false;
        }
    }

    private int[] feltPulls(int q) {
        int[] pulls = new int[feltMany(ones)];
        for (int m = 0; m < pulls.length; m++) pulls[m] = pull(ones, m, q);
        return pulls;
    }

    private long[] allDecided(int q) {
        int[] pulls = feltPulls(q);
        int all = 0;
        for (int p : pulls) all += Math.max(p, 0);
        long[] decided = new long[pulls.length + 1];
        joinAll(pulls, new boolean[pulls.length], 0, 0, all, decided);
        return decided;
    }

    int say(int m, int q, int what) {
        if (noMussel(m) || noQuestion(q)) return UNKNOWN;
        if (what != 0 && what != 1) return OUTSIDE;
        if (!felt(ones, m)) return what;
        long[] decided = allDecided(q);
        return told(decided[m], decided[decided.length - 1], what);
    }

    private static long carriedParts(int[] pulls, int i, int sum, int tenths) {
        if (i == pulls.length) return sum > 0 ? 1 : 0;
        return tenths * carriedParts(pulls, i + 1, sum, tenths)
                + (10 - tenths) * carriedParts(pulls, i + 1, sum + pulls[i], tenths);
    }

    int chance(int q, int tenths, int what) {
        if (noQuestion(q)) return UNKNOWN;
        if (tenths < 0 || tenths > 10 || what != 0 && what != 1) return OUTSIDE;
        int[] pulls = feltPulls(q);
        long below = 1;
        for (int i = 0; i < pulls.length; i++) below *= 10;
        return told(carriedParts(pulls, 0, 0, tenths), below, what);
    }

    int cuts(int q, int out, int what) {
        if (noQuestion(q)) return UNKNOWN;
        if (out < -1 || out > 1 || what != 0 && what != 1) return OUTSIDE;
        int best = NONE;
        for (int bits = 0; bits < 1 << ones.size(); bits++) {
            List<One> would = copy(ones);
            boolean ofWhole = true;
            for (int t = 0; t < would.size(); t++) {
                if ((bits >> t & 1) == 0) continue;
                if (would.get(t).cut) ofWhole = false;
                would.get(t).cut = true;
            }
            if (!ofWhole || outcome(sum(would, q)) != out) continue;
            if (best == NONE || Integer.bitCount(bits) < Integer.bitCount(best)) best = bits;
        }
        if (best == NONE) return NONE;
        return what == 0 ? Integer.bitCount(best) : best;
    }

    int fewTurns(int q, int out, int what) {
        if (noQuestion(q)) return UNKNOWN;
        if (out < -1 || out > 1 || what != 0 && what != 1) return OUTSIDE;
        if (turnsDone >= 20) return STATE;
        turnsDone++;
        int ways = 1;
        for (int m = 0; m < ones.size(); m++) ways *= 3;
        List<One> would = copy(ones);
        int best = NONE;
        for (int way = 0; way < ways; way++) {
            int bits = 0;
            int rest = way;
            for (int m = 0; m < ones.size(); m++) {
                would.get(m).lean[q] = rest % 3 - 1;
                rest /= 3;
                if (would.get(m).lean[q] != ones.get(m).lean[q]) bits |= 1 << m;
            }
            if (outcome(sum(would, q)) != out) continue;
            int fewer = best == NONE ? -1 : Integer.compare(Integer.bitCount(bits), Integer.bitCount(best));
            if (fewer < 0 || fewer == 0 && bits < best) best = bits;
        }
        if (best == NONE) return NONE;
        return what == 0 ? Integer.bitCount(best) : best;
    }

    private static String leans(List<One> all) {
        StringBuilder text = new StringBuilder();
        for (One o : all) text.append(Arrays.toString(o.lean));
        return text.toString();
    }

    int settle(int what) {
        if (what != 0 && what != 1) return OUTSIDE;
        if (ones.isEmpty()) return STATE;
        List<String> before = new ArrayList<>();
        List<One> would = ones;
        while (!before.contains(leans(would))) {
            before.add(leans(would));
            would = afterTide(would);
        }
        return what == 0 ? before.size() : before.indexOf(leans(would));
    }

    int see(int m, int q, int sum) {
        if (noMussel(m) || noQuestion(q)) return UNKNOWN;
        if (sum < 0 || sum > 400) return OUTSIDE;
        if (seen.size() == 6) return FULL;
        seen.add(new int[] {m, q, sum});
        return seen.size();
    }

    int forget() {
        int had = seen.size();
        seen = new ArrayList<>();
        return had;
    }

    int tides(int times, int seed, int what) {
        if (times < 1 || times > 60 || seed < 0 || what < 0 || what > 2) return OUTSIDE;
        if (ones.isEmpty()) return STATE;
        BigInteger drawn = BigInteger.valueOf(seed);
        List<One> would = copy(ones);
        int often = 0;
        int sums = 10000;
        for (int i = 0; i < times; i++) {
            drawn = next(drawn);
            int q = draw(drawn, 3);
            sums += sum(would, q);
            if (sum(would, q) > 0) often++;
            drawn = next(drawn);
            One turned = would.get(draw(drawn, would.size()));
            turned.lean[q] = turned.lean[q] == 1 ? -1 : turned.lean[q] == -1 ? 0 : 1;
            would = afterTide(would);
        }
        return what == 0 ? often : what == 1 ? sums : drawn.intValueExact();
    }

    private static BigInteger next(BigInteger seed) {
        BigInteger times = BigInteger.valueOf(1103515245).multiply(seed);
        return times.add(BigInteger.valueOf(12345)).mod(BigInteger.TWO.pow(31));
    }

    private static int draw(BigInteger seed, int of) {
        return seed.divide(BigInteger.valueOf(65536)).mod(BigInteger.valueOf(of)).intValueExact();
    }

    int image() {
        if (ones.isEmpty()) return STATE;
        image = new Image();
        image.ones = copy(ones);
        image.tides = tides;
        image.asked = asked.clone();
        image.carried = carried.clone();
        image.seen = new ArrayList<>(seen);
        return tides;
    }

    int restore() {
        if (image == null) return STATE;
        ones = copy(image.ones);
        tides = image.tides;
        asked = image.asked.clone();
        carried = image.carried.clone();
        seen = new ArrayList<>(image.seen);
        return tides;
    }

    int count(int what) {
        int cutMany = 0;
        int weights = 0;
        int carriedNow = 0;
        for (One o : ones) {
            if (o.cut) cutMany++;
            weights += o.weight;
        }
        for (int q = 0; q < 3; q++) if (sum(ones, q) > 0) carriedNow++;
        int[] told = {ones.size(), feltMany(ones), cutMany, weights, tides, asked[0] + asked[1] + asked[2],
            carried[0] + carried[1] + carried[2], carriedNow, seen.size(), page.length(), ropes, turnsDone};
        return what < 0 || what >= told.length ? OUTSIDE : told[what];
    }

    long digest() {
        List<Integer> numbers = new ArrayList<>();
        for (int m = 0; m < ones.size(); m++) {
            for (int what : new int[] {0, 1, 2, 3, 4, 5, 6, 7, 10, 11, 12, 20, 21, 22}) numbers.add(mussel(m, what));
        }
        for (int q = 0; q < 3 && !ones.isEmpty(); q++) {
            for (int what = 0; what <= 5; what++) numbers.add(question(q, what));
            long[] decided = allDecided(q);
            for (int m = 0; m < ones.size(); m++) {
                numbers.add(felt(ones, m) ? told(decided[m], decided[decided.length - 1], 0) : 0);
                numbers.add(felt(ones, m) ? told(decided[m], decided[decided.length - 1], 1) : 1);
            }
            numbers.add(chance(q, 3, 0));
            numbers.add(chance(q, 3, 1));
            numbers.add(cuts(q, 1, 0));
            numbers.add(cuts(q, 1, 1));
        }
        if (!ones.isEmpty()) {
            numbers.add(settle(0));
            numbers.add(settle(1));
        }
        for (char c : page.toCharArray()) numbers.add((int) c);
        for (int what = 0; what <= 11; what++) numbers.add(count(what));
        long h = 1171;
        for (int number : numbers) h = 31 * h + number;
        return h;
    }
}
