/**
 * Why the class keeps so few codes for settle(): of all leans of up to eight mussels, with any of them cranks, none
 * takes more than eight tides to lean as before, and then all stay. (Cut threads only make shorter ropes; the three
 * questions go side by side, and as each stays from its own tide on, together they need the longest of the three.)
 */
public final class SettleBoundTest {
    private static int drifted(int code, int many, int cranks) {
        int then = 0;
        int power = 1;
        int rest = code;
        int ahead = 0;
        for (int m = 0; m < many; m++) {
            int own = rest % 3 - 1;
            rest /= 3;
            int behind = m + 1 < many ? rest % 3 - 1 : 0;
            int most = ahead + own + behind;
            int next = most == 0 || (cranks >> m & 1) == 1 ? own : most > 0 ? 1 : -1;
            then += power * (next + 1);
            power *= 3;
            ahead = own;
        }
        return then;
    }

    public static void main(String[] args) {
        Due due = new Due();
        int codes = 1;
        for (int many = 1; many <= 8; many++) {
            codes *= 3;
            int longest = 0;
            for (int cranks = 0; cranks < 1 << many; cranks++) {
                for (int code = 0; code < codes; code++) {
                    int tides = 0;
                    int before = code;
                    int now = drifted(code, many, cranks);
                    for (tides = 1; tides < 100 && now != before; tides++) {
                        before = now;
                        now = drifted(now, many, cranks);
                    }
                    longest = Math.max(longest, tides);
                }
            }
            due.is("the longest settling of " + many, longest, many);
        }
        due.end("SettleBoundTest");
    }
}
