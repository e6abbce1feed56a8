/** What the tests of the project share: answers are compared, wrong ones are printed and counted. */
final class Due {
    private int right = 0;
    private int wrong = 0;

    void is(String call, long got, long want) {
        if (got == want) {
            right++;
            return;
        }
        wrong++;
        if (wrong <= 40) System.out.println(call + " answered " + got + ", due is " + want);
    }

    void holds(String what, boolean so) {
        is(what, so ? 1 : 0, 1);
    }

    boolean anyWrong() {
        return wrong > 0;
    }

    /** Ends the program: exit code 1, if an answer was wrong or none was looked at. */
    void end(String test) {
        System.out.println(test + ": " + right + " as due, " + wrong + " not");
        if (wrong > 0 || right == 0) System.exit(1);
    }

    static int write(RopeVote x, String text) {
        int last = x.count(9);
        for (int i = 0; i < text.length(); i++) last = x.letter(text.charAt(i));
        return last;
    }

    static RopeVote hung(String text) {
        RopeVote x = new RopeVote();
        write(x, text);
        x.rope();
        return x;
    }
}
