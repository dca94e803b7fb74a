/** Promises 5 and 6: rules and rule. */
public final class RuleTest {
    public static void main(String[] args) {
        whatARuleHas();
        shorterBodiesHaveZeros();
        rowsAreUsedAgain();
        wrongArguments();
        useful();
        rulesFollowLoadAlone();
        everyKAndWhat();
        Check.end();
    }

    private static void whatARuleHas() {
        RankedTrees x = Check.loaded("A=aBz:12;B=E;E=eA:007;C=Dd:000;D=b:999;", "");
        Check.same("rules", x.rules(), 5);
        int[][] want = {{'A', 'a', 'B', 'z', 12}, {'B', 'E', 0, 0, 1}, {'E', 'e', 'A', 0, 7},
            {'C', 'D', 'd', 0, 0}, {'D', 'b', 0, 0, 999}};
        for (int k = 0; k < want.length; k++) {
            for (int what = 0; what < 5; what++) {
                Check.same("rule(" + k + ", " + what + ")", x.rule(k, what), want[k][what]);
            }
        }
    }

    private static void shorterBodiesHaveZeros() {
        RankedTrees x = Check.loaded("A=a;", "");
        Check.same("second symbol", x.rule(0, 2), 0);
        Check.same("third symbol", x.rule(0, 3), 0);
    }

    private static void rowsAreUsedAgain() {
        RankedTrees x = Check.loaded("A=abc:5;A=Bcd:6;B=b;", "");
        Check.same("load", Check.load(x, "C=xyz:8;C=uvw:9;C=Dst;D=d;"), 0);
        Check.same("load", Check.load(x, "E=e;D=D;"), 0);
        Check.same("rules", x.rules(), 2);
        int[][] want = {{'E', 'e', 0, 0, 1, 1}, {'D', 'D', 0, 0, 1, 0}};
        for (int k = 0; k < 2; k++) {
            for (int what = 0; what < 6; what++) {
                Check.same("rule(" + k + ", " + what + ")", x.rule(k, what), want[k][what]);
            }
        }
    }

    private static void wrongArguments() {
        RankedTrees x = Check.loaded("A=a;A=b;", "");
        int[] numbers = {2, 3, 14, 15, -1, Integer.MAX_VALUE, Integer.MIN_VALUE};
        for (int k : numbers) {
            Check.refused("rule(" + k + ", 0)", Check.INDEX, () -> x.rule(k, 0));
            Check.refused("rule(" + k + ", 6)", Check.INDEX, () -> x.rule(k, 6));
        }
        int[] whats = {6, 7, -1, Integer.MAX_VALUE, Integer.MIN_VALUE};
        for (int what : whats) {
            Check.refused("rule(1, " + what + ")", Check.ARGUMENT, () -> x.rule(1, what));
        }
    }

    // "(0 without a grammar)"
    private static void rulesFollowLoadAlone() {
        RankedTrees x = new RankedTrees();
        Check.same("rules of a new object", x.rules(), 0);
        Check.same("a load that fails", Check.load(x, "A=a;A=b"), -2);
        Check.same("rules behind it", x.rules(), 0);
        Check.same("a load that comes round", Check.load(x, "A=a;A=A;"), RankedTrees.ROUND);
        Check.same("rules behind it", x.rules(), 0);
        Check.refused("rule(0, 0)", Check.INDEX, () -> x.rule(0, 0));
        Check.same("load", Check.load(x, "A=a;A=b;A=c;"), 0);
        Check.same("rules behind it", x.rules(), 3);
        Check.same("a load that fails", Check.load(x, "A=a;A=b;A=c;A=d;A=e"), -5);
        Check.same("rules stay", x.rules(), 3);
        x.wipe();
        Check.same("rules stay", x.rules(), 3);
        x.token('a');
        x.drop();
        Check.same("rules stay", x.rules(), 3);
        Check.same("load of fewer", Check.load(x, "A=a;"), 0);
        Check.same("rules", x.rules(), 1);
        Check.refused("rule(1, 0)", Check.INDEX, () -> x.rule(1, 0));
    }

    private static void everyKAndWhat() {
        for (int rules = 0; rules <= 14; rules += 7) {
            RankedTrees x = new RankedTrees();
            String text = "E=aBz:321;B=a;B=b;B=c;B=d;B=e;B=f;B=g;B=h;B=i;B=j;B=k;B=l;B=m;";
            Check.same("load", Check.load(x, text.substring(0, rules == 0 ? 0 : 6 + 4 * rules)),
                    rules == 0 ? -1 : 0);
            for (int k = -2; k <= 16; k++) {
                for (int what = -2; what <= 8; what++) {
                    everyKAndWhat(x, k, what, rules);
                }
            }
        }
    }

    private static void everyKAndWhat(RankedTrees x, int k, int what, int rules) {
        String call = "rule(" + k + ", " + what + ") of " + rules;
        if (k < 0 || k >= rules) {
            Check.refused(call, Check.INDEX, () -> x.rule(k, what));
        } else if (what < 0 || what > 5) {
            Check.refused(call, Check.ARGUMENT, () -> x.rule(k, what));
        } else {
            int[] first = {'E', 'a', 'B', 'z', 321, 1};
            int[] later = {'B', 'a' + k - 1, 0, 0, 1, 1};
            Check.same(call, x.rule(k, what), k == 0 ? first[what] : later[what]);
        }
    }

    private static void useful() {
        Check.useful("A=a;", "1");
        Check.useful("A=A;", "0");
        Check.useful("A=AA;", "0");
        Check.useful("A=B;B=b;", "11");
        Check.useful("B=b;A=B;A=a;", "100");
        Check.useful("A=BC;B=b;A=a;", "001");
        Check.useful("A=BC;B=b;C=c;A=a;", "1111");
        Check.useful("A=BCD;B=b;C=c;D=D;A=x;", "00001");
        Check.useful("A=E;E=D;D=C;C=B;B=b;", "11111");
        Check.useful("A=B;B=C;C=D;D=E;E=e;", "11111");
        Check.useful("E=e;D=E;C=D;B=C;A=B;", "10000");
        Check.useful("A=B;E=e;D=E;C=D;B=C;", "11111");
        Check.useful("A=Ax;E=e;D=E;C=D;B=C;A=B;", "111111");
        Check.useful("A=aB;B=bC;B=b;C=Cc;D=d;D=A;", "101000");
        Check.useful("A=a;A=aB;B=bA;B=Cc;C=Cd;", "11100");
        longerThanAnyRow();
    }

    // The shortest tree here has 27 tokens: no row is so long, yet the rules are useful.
    private static void longerThanAnyRow() {
        Check.useful("A=BBB;B=CCC;C=ccc;", "111");
        Check.useful("A=a;A=BBB;B=CCC;C=ccc;D=AB;", "11110");
    }
}
