import java.util.Set;
import java.util.TreeSet;

/** What the tests of the project share: answers are compared, wrong ones are printed and counted. */
final class Due {
    private static final long LEAST_REFUSAL = -104;

    private final String test;
    private final Set<Long> wanted = new TreeSet<>();
    private int right = 0;
    private int wrong = 0;

    Due() {
        this("");
    }

    /** The name of the test stands ahead of each wrong answer. */
    Due(String test) {
        this.test = test;
    }

    void is(String call, long got, long want) {
        if (want < 0 && want >= LEAST_REFUSAL) wanted.add(want);
        if (got == want) {
            right++;
            return;
        }
        wrong++;
        if (wrong <= 40) System.out.println(test + call + " answered " + got + ", due is " + want);
    }

    void holds(String what, boolean so) {
        is(what, so ? 1 : 0, 1);
    }

    boolean anyWrong() {
        return wrong > 0;
    }

    /** Whether this refusal (or NONE) was due anywhere. */
    boolean wanted(long refusal) {
        return wanted.contains(refusal);
    }

    boolean anyLookedAt() {
        return right + wrong > 0;
    }

    /** Ends the program: exit code 1, if an answer was wrong or none was looked at. */
    void end(String name) {
        System.out.println(name + ": " + right + " as due, " + wrong + " not");
        if (wrong > 0 || right == 0) System.exit(1);
    }

    static int write(RopeVote x, String text) {
        int last = x.count(9);
        for (int i = 0; i < text.length(); i++) last = x.letter(text.charAt(i));
        return last;
    }

    static RopeVote hung(String text) {
        RopeVote x = new RopeVote();
        write(x, text);
        x.rope();
        return x;
    }
}
