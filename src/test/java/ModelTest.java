import java.util.Random;

/** Drawn runs of calls, by fixed seeds, on the class and on the model: every answer must be the same. */
public final class ModelTest {
    private static final int[] WILD = {Integer.MIN_VALUE, -104, -2, -1, 0, 1, 2, 3, 7, 8, 9, 13, 23, 51, 127, 401, Integer.MAX_VALUE};
    private static final Due DUE = new Due();

    private static int near(Random r, int least, int most) {
        if (r.nextInt(12) == 0) return WILD[r.nextInt(WILD.length)];
        return least + r.nextInt(most - least + 1);
    }

    private static String drawnRope(Random r) {
        String kinds = r.nextInt(3) == 0 ? "ksksm" : "mecks";
        StringBuilder text = new StringBuilder();
        int many = r.nextInt(4) == 0 ? 8 : 2 + r.nextInt(7);
        for (int m = 0; m < many; m++) {
            if (m > 0) text.append(',');
            text.append(kinds.charAt(r.nextInt(5))).append((char) ('1' + r.nextInt(9)));
            for (int q = 0; q < 3; q++) text.append("+-0+-".charAt(r.nextInt(5)));
        }
        if (r.nextInt(4) == 0) text.setCharAt(r.nextInt(text.length()), "mecks0123456789+-,; x".charAt(r.nextInt(21)));
        if (r.nextInt(8) == 0) text.setLength(r.nextInt(text.length() + 1));
        if (r.nextInt(8) == 0) text.append(",m1+00");
        return text.toString();
    }

    private static void newRope(Random r, String run, RopeVote x, Model y) {
        String text = drawnRope(r);
        if (r.nextInt(5) != 0) DUE.is(run + "blank()", x.blank(), y.blank());
        for (int i = 0; i < text.length(); i++) {
            int code = text.charAt(i);
            DUE.is(run + "letter(" + code + ")", x.letter(code), y.letter(code));
        }
        DUE.is(run + "fault() of " + text, x.fault(), y.fault());
        DUE.is(run + "rope() of " + text, x.rope(), y.rope());
    }

    private static void oneCall(Random r, String run, RopeVote x, Model y) {
        int m = near(r, 0, 7);
        int q = near(r, 0, 2);
        int way = near(r, -1, 1);
        int half = near(r, 0, 1);
        switch (r.nextInt(27)) {
            case 0: { int a = near(r, 32, 126); DUE.is(run + "letter(" + a + ")", x.letter(a), y.letter(a)); break; }
            case 1: if (r.nextInt(4) == 0) DUE.is(run + "blank()", x.blank(), y.blank()); break;
            case 2: DUE.is(run + "fault()", x.fault(), y.fault()); break;
            case 3: if (r.nextInt(9) == 0) newRope(r, run, x, y); else DUE.is(run + "rope()", x.rope(), y.rope()); break;
            case 4: { int w = near(r, 0, 22); DUE.is(run + "mussel(" + m + ", " + w + ")", x.mussel(m, w), y.mussel(m, w)); break; }
            case 5: { int k = near(r, 0, 4); DUE.is(run + "as(" + m + ", " + k + ")", x.as(m, k), y.as(m, k)); break; }
            case 6: { int w = near(r, 0, 5); DUE.is(run + "question(" + q + ", " + w + ")", x.question(q, w), y.question(q, w)); break; }
            case 7: DUE.is(run + "ask(" + q + ")", x.ask(q), y.ask(q)); break;
            case 8: DUE.is(run + "tide()", x.tide(), y.tide()); break;
            case 9: DUE.is(run + "cut(" + m + ")", x.cut(m), y.cut(m)); break;
            case 10: DUE.is(run + "tie(" + m + ")", x.tie(m), y.tie(m)); break;
            case 11: case 12: DUE.is(run + "turn(" + m + ", " + q + ", " + way + ")", x.turn(m, q, way), y.turn(m, q, way)); break;
            case 13: { int w = near(r, 1, 9); DUE.is(run + "grow(" + m + ", " + w + ")", x.grow(m, w), y.grow(m, w)); break; }
            case 14: DUE.is(run + "say(" + m + ", " + q + ", " + half + ")", x.say(m, q, half), y.say(m, q, half)); break;
            case 15: { int t = near(r, 0, 10); DUE.is(run + "chance(" + q + ", " + t + ", " + half + ")", x.chance(q, t, half), y.chance(q, t, half)); break; }
            case 16: DUE.is(run + "cuts(" + q + ", " + way + ", " + half + ")", x.cuts(q, way, half), y.cuts(q, way, half)); break;
            case 17: DUE.is(run + "fewTurns(" + q + ", " + way + ", " + half + ")", x.fewTurns(q, way, half), y.fewTurns(q, way, half)); break;
            case 18: DUE.is(run + "settle(" + half + ")", x.settle(half), y.settle(half)); break;
            case 19: case 20: { int s = seenSum(r, x, q); DUE.is(run + "see(" + m + ", " + q + ", " + s + ")", x.see(m, q, s), y.see(m, q, s)); break; }
            case 21: if (r.nextInt(3) == 0) DUE.is(run + "forget()", x.forget(), y.forget()); break;
            case 22: { int t = near(r, 1, 60); int s = r.nextInt(); int w = near(r, 0, 2);
                DUE.is(run + "tides(" + t + ", " + s + ", " + w + ")", x.tides(t, s, w), y.tides(t, s, w)); break; }
            case 23: DUE.is(run + "image()", x.image(), y.image()); break;
            case 24: DUE.is(run + "restore()", x.restore(), y.restore()); break;
            case 25: { int w = near(r, 0, 11); DUE.is(run + "count(" + w + ")", x.count(w), y.count(w)); break; }
            default: DUE.is(run + "digest()", x.digest(), y.digest()); break;
        }
    }

    // A sum that the rope has now, most of the time: then some leans are left, and not always all.
    private static int seenSum(Random r, RopeVote x, int question) {
        return r.nextInt(4) == 0 ? near(r, 190, 210) : x.question(question, 0);
    }

    public static void main(String[] args) {
        for (int seed = 1; seed <= 1500 && !DUE.anyWrong(); seed++) {
            Random r = new Random(seed);
            RopeVote x = new RopeVote();
            Model y = new Model();
            String run = "seed " + seed + ": ";
            if (r.nextInt(10) != 0) newRope(r, run, x, y);
            for (int call = 0; call < 120 && !DUE.anyWrong(); call++) oneCall(r, run + "call " + call + " ", x, y);
            DUE.is(run + "digest()", x.digest(), y.digest());
        }
        DUE.end("ModelTest");
    }
}
